theorem hd_X4_mixedFields : yX4_mixedFields.cls = RX4 ∧ yX4_mixedFields.cls ≠ "java/lang/invoke/MethodHandle" ∧ yX4_mixedFields.cls ≠ "java/lang/invoke/VarHandle" ∧ (parseMethodDescriptor yX4_mixedFields.desc).map (fun d => d.parameters.length) = some 1 := by decide +kernel
abbrev rX4_mixedFields : Room := { frames := 3, cells := 0, slots := 0, locals := 69 }
set_option maxHeartbeats 4000000 in
set_option maxRecDepth 100000 in
theorem c_X4_mixedFields (l : Launch) (D : va_G) (cI cZ cB cJ : ClassId) (A_t : Nat) (A_t_opening : Nat) (A_t_board : Nat) (A_t_trialOpening : Nat) (A_t_trial : Nat) (A_t_history : Nat) (A_t_snapshot : Nat) (A_t_text : Nat) (A_t_board_numbers : Nat) (A_t_board_owners : Nat) (A_t_board_cells : Nat) (V_t_hasSnapshot : Int32) (V_t_board_numbers : Nat → Int32) (V_t_board_cells : Nat → Int32) (V_t_board_owners : Nat → Int32) (x1 : Int64) (r0 : Int64) (hg : g_X4_mixedFields V_t_board_numbers V_t_board_cells V_t_board_owners x1 = some r0) : Met l yX4_mixedFields wsX4_mixedFields rX4_mixedFields (PcR D cI cZ cB cJ [(A_t, .inr (4, [.ref A_t_opening, .ref A_t_board, .ref A_t_trialOpening, .ref A_t_trial, .ref A_t_history, .ref A_t_snapshot, .int V_t_hasSnapshot, .ref A_t_text])), (A_t_board, .inr (0, [.ref A_t_board_numbers, .ref A_t_board_owners, .ref A_t_board_cells])), (A_t_board_numbers, .inl (cI, 10, .inl V_t_board_numbers)), (A_t_board_cells, .inl (cI, 63, .inl V_t_board_cells)), (A_t_board_owners, .inl (cI, 12, .inl V_t_board_owners))] [.ref A_t, .long x1]) (vp_Sl (fun r' => r' = r0)) 0 0 (fun _ => False) := by
  refine bodyRl (cc := cX4_mixedFields) (maxL := 7) (lv := [(0, .ref A_t), (1, .long x1)]) (by decide) rfl (Nat.le_of_ble_eq_true rfl) rfl ?_
  intro p e s m args below meth c Q hx hb hml hown hts hP hK fin ls hl
  replace hown : s.vm.findClass RX4 = some m.cls := hown
  have S : CallFix p m c cX4_mixedFields 7 s args wsX4_mixedFields RX4 := ⟨hx, hb, hml, hown, hts⟩
  unfold g_X4_mixedFields at hg
  refine lv_lload_n hx hb dX4_mixedFields_0 rfl (lv_at hl 1 rfl) ?_
  refine lv_lstore_n (lv' := [(3, .long x1), (0, .ref A_t), (1, .long x1)]) hx hb dX4_mixedFields_1 rfl hl (by decide) rfl (fun ls hl => ?_)
  refine lv_iconst (v := 0) hx hb dX4_mixedFields_2 (by decide) ?_
  refine lv_istore (lv' := [(5, .int 0), (3, .long x1), (0, .ref A_t), (1, .long x1)]) hx hb dX4_mixedFields_3 hl (by decide) rfl (fun ls hl => ?_)
  obtain ⟨v8, hL, hg⟩ := bind_ex hg
  have kx : ∀ ls : Array Slot, lv_has ls 7 [(3, .long v8)] → W p l e rX4_mixedFields s m args below meth c s.heap [] 0 0 Q (F0 m 47 ls []) := by
    intro ls hl
    refine lv_lload_n hx hb dX4_mixedFields_47 rfl (lv_at hl 0 rfl) ?_
    cases hg
    exact fin _ _ dX4_mixedFields_48
  have L : ∀ (nf : Nat) (v1 : Int64) (v2 : Int32), ∀ ls : Array Slot, lv_has ls 7 [(5, .int v2), (3, .long v1), (0, .ref A_t)] → g_X4_mixedFields_L1 V_t_board_numbers V_t_board_cells V_t_board_owners nf v1 v2 = some v8 → W p l e rX4_mixedFields s m args below meth c s.heap [] 0 0 Q (F0 m 5 ls []) := by
    intro nf
    induction nf with
    | zero =>
      intro v1 v2 ls hl hg
      exact no_some hg
    | succ nf ih =>
      intro v1 v2 ls hl hg
      rw [g_X4_mixedFields_L1] at hg
      refine lv_iload hx hb dX4_mixedFields_5 (lv_at hl 0 rfl) ?_
      refine lv_bipush (v := 12) hx hb dX4_mixedFields_7 (by decide) ?_
      refine lv_icmp_ge (tgt := 47) hx hb dX4_mixedFields_9 (by decide) (fun hc => ?_) (fun hc => ?_)
      · replace hg := if_yes hg hc
        cases hg
        exact kx _ (lv_sub hl [1] rfl)
      · replace hg := if_no hg hc
        refine lv_iconst (v := 0) hx hb dX4_mixedFields_12 (by decide) ?_
        refine lv_istore (lv' := [(6, .int 0), (5, .int v2), (3, .long v1), (0, .ref A_t)]) hx hb dX4_mixedFields_13 hl (by decide) rfl (fun ls hl => ?_)
        obtain ⟨v7, hL, hg⟩ := bind_ex hg
        have kx : ∀ ls : Array Slot, lv_has ls 7 [(5, .int v2), (3, .long v7), (0, .ref A_t)] → W p l e rX4_mixedFields s m args below meth c s.heap [] 0 0 Q (F0 m 41 ls []) := by
          intro ls hl
          refine lv_iinc (v := (v2 + 1)) (lv' := [(5, .int (v2 + 1)), (3, .long v7), (0, .ref A_t)]) hx hb dX4_mixedFields_41 hl (k := 0) rfl rfl (by decide) rfl (fun ls hl => ?_)
          refine lv_goto (tgt := 5) hx hb dX4_mixedFields_44 (by decide) ?_
          exact ih _ _ _ (lv_sub hl [0, 1, 2] rfl) hg
        have L : ∀ (nf : Nat) (v3 : Int64) (v4 : Int32), ∀ ls : Array Slot, lv_has ls 7 [(6, .int v4), (5, .int v2), (3, .long v3), (0, .ref A_t)] → g_X4_mixedFields_L2 V_t_board_numbers V_t_board_cells V_t_board_owners v2 nf v3 v4 = some v7 → W p l e rX4_mixedFields s m args below meth c s.heap [] 0 0 Q (F0 m 15 ls []) := by
          intro nf
          induction nf with
          | zero =>
            intro v3 v4 ls hl hg
            exact no_some hg
          | succ nf ih =>
            intro v3 v4 ls hl hg
            rw [g_X4_mixedFields_L2] at hg
            refine lv_iload hx hb dX4_mixedFields_15 (lv_at hl 0 rfl) ?_
            refine lv_iconst (v := 5) hx hb dX4_mixedFields_17 (by decide) ?_
            refine lv_icmp_ge (tgt := 41) hx hb dX4_mixedFields_18 (by decide) (fun hc => ?_) (fun hc => ?_)
            · replace hg := if_yes hg hc
              cases hg
              exact kx _ (lv_sub hl [1, 2, 3] rfl)
            · replace hg := if_no hg hc
              refine lv_lload_n hx hb dX4_mixedFields_21 rfl (lv_at hl 2 rfl) ?_
              refine lv_aload_n hx hb dX4_mixedFields_22 rfl (lv_at hl 3 rfl) ?_
              refine lv_iload hx hb dX4_mixedFields_23 (lv_at hl 1 rfl) ?_
              refine lv_iload hx hb dX4_mixedFields_25 (lv_at hl 0 rfl) ?_
              obtain ⟨v5, hq, hg⟩ := bind_ex hg
              refine callRVi (As := [.int v2, .int v4]) (rest := [.long v3]) S hK hP (c_X4_fieldNumber l D cI cZ cB cJ A_t A_t_opening A_t_board A_t_trialOpening A_t_trial A_t_history A_t_snapshot A_t_text A_t_board_numbers A_t_board_owners A_t_board_cells V_t_hasSnapshot V_t_board_numbers V_t_board_cells V_t_board_owners v2 v4 v5 hq) [0, 1, 2, 3, 4] rfl (cwV 2 hts gX4_mixedFields_X4_fieldNumber rfl rfl rfl hd_X4_fieldNumber ⟨Nat.le_of_ble_eq_true rfl, Nat.le_of_ble_eq_true rfl⟩) rfl rfl rfl hl.1 rfl (Nat.le_of_ble_eq_true rfl) dX4_mixedFields_27 ⟨Nat.zero_le _, Nat.zero_le _⟩ ?_
              refine lv_i2l (v := v5.toInt64) hx hb dX4_mixedFields_30 rfl ?_
              obtain ⟨v6, hq, hg⟩ := bind_ex hg
              refine callRSl (As := [.long v3, .long v5.toInt64]) (rest := []) S hK hP (c_X4_mixed l D cI cZ cB cJ v3 v5.toInt64 v6 hq) [] rfl (va_cwS 2 hts gX4_mixedFields_X4_mixed rfl rfl rfl hd_X4_mixed ⟨Nat.le_of_ble_eq_true rfl, Nat.le_of_ble_eq_true rfl⟩) rfl hl.1 rfl (Nat.le_of_ble_eq_true rfl) dX4_mixedFields_31 ⟨Nat.zero_le _, Nat.zero_le _⟩ ?_
              refine lv_lstore_n (lv' := [(3, .long v6), (6, .int v4), (5, .int v2), (0, .ref A_t)]) hx hb dX4_mixedFields_34 rfl hl (by decide) rfl (fun ls hl => ?_)
              refine lv_iinc (v := (v4 + 1)) (lv' := [(6, .int (v4 + 1)), (3, .long v6), (5, .int v2), (0, .ref A_t)]) hx hb dX4_mixedFields_35 hl (k := 1) rfl rfl (by decide) rfl (fun ls hl => ?_)
              refine lv_goto (tgt := 15) hx hb dX4_mixedFields_38 (by decide) ?_
              exact ih _ _ _ (lv_sub hl [0, 2, 1, 3] rfl) hg
        exact L FU _ _ _ (lv_sub hl [0, 1, 2, 3] rfl) hL
  exact L FU _ _ _ (lv_sub hl [0, 1, 2] rfl) hL
theorem hd_X4_mixedSeats : yX4_mixedSeats.cls = RX4 ∧ yX4_mixedSeats.cls ≠ "java/lang/invoke/MethodHandle" ∧ yX4_mixedSeats.cls ≠ "java/lang/invoke/VarHandle" ∧ (parseMethodDescriptor yX4_mixedSeats.desc).map (fun d => d.parameters.length) = some 1 := by decide +kernel
theorem in_X4_mixedSeats_X4 : ∀ w ∈ u_ws RX4 TX4 8, w ∈ wsX4_mixedSeats := fun _ h => List.mem_cons_of_mem _ (List.mem_append_left _ (List.mem_append_left _ (List.mem_append_right _ h)))
theorem wd_X4_mixedSeats_1 : Cond.fieldLink RX4 10 "FogOrders" "opening" "LFogOrders$Opening;" ∈ wsX4_mixedSeats := List.mem_of_getElem? (i := 1) rfl
abbrev rX4_mixedSeats : Room := { frames := 5, cells := 0, slots := 0, locals := 114 }
set_option maxHeartbeats 4000000 in
set_option maxRecDepth 100000 in
theorem c_X4_mixedSeats (l : Launch) (D : va_G) (cI cZ cB cJ : ClassId) (A_t : Nat) (A_t_opening : Nat) (A_t_board : Nat) (A_t_trialOpening : Nat) (A_t_trial : Nat) (A_t_history : Nat) (A_t_snapshot : Nat) (A_t_text : Nat) (A_t_board_numbers : Nat) (A_t_board_owners : Nat) (A_t_board_cells : Nat) (A_t_opening_cut : Nat) (A_t_opening_counts : Nat) (A_t_opening_strength : Nat) (A_t_opening_reason : Nat) (A_t_opening_driver : Nat) (A_t_opening_waits : Nat) (A_t_opening_stands : Nat) (V_t_hasSnapshot : Int32) (V_t_board_numbers : Nat → Int32) (V_t_board_cells : Nat → Int32) (V_t_board_owners : Nat → Int32) (V_t_opening_stands : Nat → Int32) (x1 : Int64) (r0 : Int64) (hg : g_X4_mixedSeats V_t_board_numbers V_t_board_cells V_t_board_owners V_t_opening_stands x1 = some r0) : Met l yX4_mixedSeats wsX4_mixedSeats rX4_mixedSeats (PcR D cI cZ cB cJ [(A_t, .inr (4, [.ref A_t_opening, .ref A_t_board, .ref A_t_trialOpening, .ref A_t_trial, .ref A_t_history, .ref A_t_snapshot, .int V_t_hasSnapshot, .ref A_t_text])), (A_t_board, .inr (0, [.ref A_t_board_numbers, .ref A_t_board_owners, .ref A_t_board_cells])), (A_t_board_numbers, .inl (cI, 10, .inl V_t_board_numbers)), (A_t_board_cells, .inl (cI, 63, .inl V_t_board_cells)), (A_t_board_owners, .inl (cI, 12, .inl V_t_board_owners)), (A_t_opening, .inr (2, [.ref A_t_board, .ref A_t_opening_cut, .ref A_t_opening_counts, .ref A_t_opening_strength, .ref A_t_opening_reason, .ref A_t_opening_driver, .ref A_t_opening_waits, .ref A_t_opening_stands])), (A_t_opening_stands, .inl (cI, 9, .inl V_t_opening_stands))] [.ref A_t, .long x1]) (vp_Sl (fun r' => r' = r0)) 0 0 (fun _ => False) := by
  refine bodyRl (cc := cX4_mixedSeats) (maxL := 7) (lv := [(0, .ref A_t), (1, .long x1)]) (by decide) rfl (Nat.le_of_ble_eq_true rfl) rfl ?_
  intro p e s m args below meth c Q hx hb hml hown hts hP hK fin ls hl
  replace hown : s.vm.findClass RX4 = some m.cls := hown
  have S : CallFix p m c cX4_mixedSeats 7 s args wsX4_mixedSeats RX4 := ⟨hx, hb, hml, hown, hts⟩
  unfold g_X4_mixedSeats at hg
  refine lv_lload_n hx hb dX4_mixedSeats_0 rfl (lv_at hl 1 rfl) ?_
  refine lv_lstore_n (lv' := [(3, .long x1), (0, .ref A_t), (1, .long x1)]) hx hb dX4_mixedSeats_1 rfl hl (by decide) rfl (fun ls hl => ?_)
  refine lv_iconst (v := 0) hx hb dX4_mixedSeats_2 (by decide) ?_
  refine lv_istore (lv' := [(5, .int 0), (3, .long x1), (0, .ref A_t), (1, .long x1)]) hx hb dX4_mixedSeats_3 hl (by decide) rfl (fun ls hl => ?_)
  obtain ⟨v10, hL, hg⟩ := bind_ex hg
  have kx : ∀ ls : Array Slot, lv_has ls 7 [(3, .long v10)] → W p l e rX4_mixedSeats s m args below meth c s.heap [] 0 0 Q (F0 m 61 ls []) := by
    intro ls hl
    refine lv_lload_n hx hb dX4_mixedSeats_61 rfl (lv_at hl 0 rfl) ?_
    cases hg
    exact fin _ _ dX4_mixedSeats_62
  have L : ∀ (nf : Nat) (v1 : Int64) (v2 : Int32), ∀ ls : Array Slot, lv_has ls 7 [(5, .int v2), (3, .long v1), (0, .ref A_t)] → g_X4_mixedSeats_L1 V_t_board_numbers V_t_board_cells V_t_board_owners V_t_opening_stands nf v1 v2 = some v10 → W p l e rX4_mixedSeats s m args below meth c s.heap [] 0 0 Q (F0 m 5 ls []) := by
    intro nf
    induction nf with
    | zero =>
      intro v1 v2 ls hl hg
      exact no_some hg
    | succ nf ih =>
      intro v1 v2 ls hl hg
      rw [g_X4_mixedSeats_L1] at hg
      refine lv_iload hx hb dX4_mixedSeats_5 (lv_at hl 0 rfl) ?_
      refine lv_iconst (v := 3) hx hb dX4_mixedSeats_7 (by decide) ?_
      refine lv_icmp_ge (tgt := 61) hx hb dX4_mixedSeats_8 (by decide) (fun hc => ?_) (fun hc => ?_)
      · replace hg := if_yes hg hc
        cases hg
        exact kx _ (lv_sub hl [1] rfl)
      · replace hg := if_no hg hc
        refine lv_iconst (v := 0) hx hb dX4_mixedSeats_11 (by decide) ?_
        refine lv_istore (lv' := [(6, .int 0), (5, .int v2), (3, .long v1), (0, .ref A_t)]) hx hb dX4_mixedSeats_12 hl (by decide) rfl (fun ls hl => ?_)
        obtain ⟨v7, hL, hg⟩ := bind_ex hg
        have kx : ∀ ls : Array Slot, lv_has ls 7 [(5, .int v2), (3, .long v7), (0, .ref A_t)] → W p l e rX4_mixedSeats s m args below meth c s.heap [] 0 0 Q (F0 m 40 ls []) := by
          intro ls hl
          refine lv_lload_n hx hb dX4_mixedSeats_40 rfl (lv_at hl 1 rfl) ?_
          refine lv_aload_n hx hb dX4_mixedSeats_41 rfl (lv_at hl 2 rfl) ?_
          refine xget (ci := 4) (C := RX4) (T := TX4) (N := 8) (v := .ref A_t_opening) hx hb hts in_X4_mixedSeats_X4 hown hK hP 0 rfl rfl 0 (by decide) wd_X4_mixedSeats_1 rfl dX4_mixedSeats_42 ?_
          refine lv_iload hx hb dX4_mixedSeats_45 (lv_at hl 0 rfl) ?_
          obtain ⟨v8, hq, hg⟩ := bind_ex hg
          refine callRVi (As := [.int v2]) (rest := [.long v7]) S hK hP (c_X2_centresThen l D cI cZ cB cJ A_t_opening A_t_board A_t_opening_cut A_t_opening_counts A_t_opening_strength A_t_opening_reason A_t_opening_driver A_t_opening_waits A_t_opening_stands A_t_board_numbers A_t_board_owners A_t_board_cells V_t_board_numbers V_t_board_owners V_t_opening_stands V_t_board_cells v2 v8 hq) [5, 1, 2, 4, 6, 3] rfl (cwV 1 hts gX4_mixedSeats_X2_centresThen rfl rfl rfl hd_X2_centresThen ⟨Nat.le_of_ble_eq_true rfl, Nat.le_of_ble_eq_true rfl⟩) rfl rfl rfl hl.1 rfl (Nat.le_of_ble_eq_true rfl) dX4_mixedSeats_47 ⟨Nat.zero_le _, Nat.zero_le _⟩ ?_
          refine lv_i2l (v := v8.toInt64) hx hb dX4_mixedSeats_50 rfl ?_
          obtain ⟨v9, hq, hg⟩ := bind_ex hg
          refine callRSl (As := [.long v7, .long v8.toInt64]) (rest := []) S hK hP (c_X4_mixed l D cI cZ cB cJ v7 v8.toInt64 v9 hq) [] rfl (va_cwS 2 hts gX4_mixedSeats_X4_mixed rfl rfl rfl hd_X4_mixed ⟨Nat.le_of_ble_eq_true rfl, Nat.le_of_ble_eq_true rfl⟩) rfl hl.1 rfl (Nat.le_of_ble_eq_true rfl) dX4_mixedSeats_51 ⟨Nat.zero_le _, Nat.zero_le _⟩ ?_
          refine lv_lstore_n (lv' := [(3, .long v9), (5, .int v2), (0, .ref A_t)]) hx hb dX4_mixedSeats_54 rfl hl (by decide) rfl (fun ls hl => ?_)
          refine lv_iinc (v := (v2 + 1)) (lv' := [(5, .int (v2 + 1)), (3, .long v9), (0, .ref A_t)]) hx hb dX4_mixedSeats_55 hl (k := 1) rfl rfl (by decide) rfl (fun ls hl => ?_)
          refine lv_goto (tgt := 5) hx hb dX4_mixedSeats_58 (by decide) ?_
          exact ih _ _ _ (lv_sub hl [0, 1, 2] rfl) hg
        have L : ∀ (nf : Nat) (v3 : Int64) (v4 : Int32), ∀ ls : Array Slot, lv_has ls 7 [(6, .int v4), (5, .int v2), (3, .long v3), (0, .ref A_t)] → g_X4_mixedSeats_L2 V_t_board_numbers V_t_board_cells V_t_board_owners v2 nf v3 v4 = some v7 → W p l e rX4_mixedSeats s m args below meth c s.heap [] 0 0 Q (F0 m 14 ls []) := by
          intro nf
          induction nf with
          | zero =>
            intro v3 v4 ls hl hg
            exact no_some hg
          | succ nf ih =>
            intro v3 v4 ls hl hg
            rw [g_X4_mixedSeats_L2] at hg
            refine lv_iload hx hb dX4_mixedSeats_14 (lv_at hl 0 rfl) ?_
            refine lv_iconst (v := 5) hx hb dX4_mixedSeats_16 (by decide) ?_
            refine lv_icmp_ge (tgt := 40) hx hb dX4_mixedSeats_17 (by decide) (fun hc => ?_) (fun hc => ?_)
            · replace hg := if_yes hg hc
              cases hg
              exact kx _ (lv_sub hl [1, 2, 3] rfl)
            · replace hg := if_no hg hc
              refine lv_lload_n hx hb dX4_mixedSeats_20 rfl (lv_at hl 2 rfl) ?_
              refine lv_aload_n hx hb dX4_mixedSeats_21 rfl (lv_at hl 3 rfl) ?_
              refine lv_iload hx hb dX4_mixedSeats_22 (lv_at hl 1 rfl) ?_
              refine lv_iload hx hb dX4_mixedSeats_24 (lv_at hl 0 rfl) ?_
              obtain ⟨v5, hq, hg⟩ := bind_ex hg
              refine callRVi (As := [.int v2, .int v4]) (rest := [.long v3]) S hK hP (c_X4_seatNumber l D cI cZ cB cJ A_t A_t_opening A_t_board A_t_trialOpening A_t_trial A_t_history A_t_snapshot A_t_text A_t_board_numbers A_t_board_owners A_t_board_cells V_t_hasSnapshot V_t_board_numbers V_t_board_cells V_t_board_owners v2 v4 v5 hq) [0, 1, 2, 3, 4] rfl (cwV 2 hts gX4_mixedSeats_X4_seatNumber rfl rfl rfl hd_X4_seatNumber ⟨Nat.le_of_ble_eq_true rfl, Nat.le_of_ble_eq_true rfl⟩) rfl rfl rfl hl.1 rfl (Nat.le_of_ble_eq_true rfl) dX4_mixedSeats_26 ⟨Nat.zero_le _, Nat.zero_le _⟩ ?_
              refine lv_i2l (v := v5.toInt64) hx hb dX4_mixedSeats_29 rfl ?_
              obtain ⟨v6, hq, hg⟩ := bind_ex hg
              refine callRSl (As := [.long v3, .long v5.toInt64]) (rest := []) S hK hP (c_X4_mixed l D cI cZ cB cJ v3 v5.toInt64 v6 hq) [] rfl (va_cwS 2 hts gX4_mixedSeats_X4_mixed rfl rfl rfl hd_X4_mixed ⟨Nat.le_of_ble_eq_true rfl, Nat.le_of_ble_eq_true rfl⟩) rfl hl.1 rfl (Nat.le_of_ble_eq_true rfl) dX4_mixedSeats_30 ⟨Nat.zero_le _, Nat.zero_le _⟩ ?_
              refine lv_lstore_n (lv' := [(3, .long v6), (6, .int v4), (5, .int v2), (0, .ref A_t)]) hx hb dX4_mixedSeats_33 rfl hl (by decide) rfl (fun ls hl => ?_)
              refine lv_iinc (v := (v4 + 1)) (lv' := [(6, .int (v4 + 1)), (3, .long v6), (5, .int v2), (0, .ref A_t)]) hx hb dX4_mixedSeats_34 hl (k := 1) rfl rfl (by decide) rfl (fun ls hl => ?_)
              refine lv_goto (tgt := 14) hx hb dX4_mixedSeats_37 (by decide) ?_
              exact ih _ _ _ (lv_sub hl [0, 2, 1, 3] rfl) hg
        exact L FU _ _ _ (lv_sub hl [0, 1, 2, 3] rfl) hL
  exact L FU _ _ _ (lv_sub hl [0, 1, 2] rfl) hL
theorem hd_X4_bitsOf : yX4_bitsOf.cls ≠ "java/lang/invoke/MethodHandle" ∧ yX4_bitsOf.cls ≠ "java/lang/invoke/VarHandle" ∧ (parseMethodDescriptor yX4_bitsOf.desc).map (fun d => d.parameters.length) = some 1 := by decide +kernel
theorem wd_X4_bitsOf_1 : Cond.constantLong RX4 277 (1023) ∈ wsX4_bitsOf := List.mem_of_getElem? (i := 1) rfl
theorem wd_X4_bitsOf_3 : Cond.constantDouble RX4 281 (4841369599423283200) ∈ wsX4_bitsOf := List.mem_of_getElem? (i := 3) rfl
theorem wd_X4_bitsOf_2 : Cond.constantDouble RX4 279 (4611686018427387904) ∈ wsX4_bitsOf := List.mem_of_getElem? (i := 2) rfl
abbrev rX4_bitsOf : Room := { frames := 0, cells := 0, slots := 0, locals := 0 }
set_option maxHeartbeats 4000000 in
set_option maxRecDepth 100000 in
theorem c_X4_bitsOf (l : Launch) (D : va_G) (cI cZ cB cJ : ClassId) (x1 : UInt64) (r0 : Int64) (hg : g_X4_bitsOf x1 = some r0) : Met l yX4_bitsOf wsX4_bitsOf rX4_bitsOf (PcR D cI cZ cB cJ [] [.double x1]) (vp_Sl (fun r' => r' = r0)) 0 0 (fun _ => False) := by
  refine bodyRl (cc := cX4_bitsOf) (maxL := 8) (lv := [(0, .double x1)]) (by decide) rfl (Nat.le_of_ble_eq_true rfl) rfl ?_
  intro p e s m args below meth c Q hx hb hml hown hts hP hK fin ls hl
  replace hown : s.vm.findClass RX4 = some m.cls := hown
  have S : CallFix p m c cX4_bitsOf 8 s args wsX4_bitsOf RX4 := ⟨hx, hb, hml, hown, hts⟩
  unfold g_X4_bitsOf at hg
  refine lv_dload_n hx hb dX4_bitsOf_0 rfl (lv_at hl 0 rfl) ?_
  refine lv_dconst0 hx hb dX4_bitsOf_1 ?_
  refine lv_dcmp hx hb dX4_bitsOf_2 ?_
  refine lv_if_gt (tgt := 8) hx hb dX4_bitsOf_3 (by decide) (fun hc => ?_) (fun hc => ?_)
  · replace hg := if_yes hg hc
    refine lv_dload_n hx hb dX4_bitsOf_8 rfl (lv_at hl 0 rfl) ?_
    refine lv_dstore_n (lv' := [(2, .double x1), (0, .double x1)]) hx hb dX4_bitsOf_9 rfl hl (by decide) rfl (fun ls hl => ?_)
    refine lv_ldc2 hx hb hown (hts _ wd_X4_bitsOf_1) dX4_bitsOf_10 ?_
    refine lv_lstore (lv' := [(4, .long 1023), (2, .double x1), (0, .double x1)]) hx hb dX4_bitsOf_13 hl (by decide) rfl (fun ls hl => ?_)
    refine lv_iconst (v := 0) hx hb dX4_bitsOf_15 (by decide) ?_
    refine lv_istore (lv' := [(6, .int 0), (4, .long 1023), (2, .double x1), (0, .double x1)]) hx hb dX4_bitsOf_16 hl (by decide) rfl (fun ls hl => ?_)
    obtain ⟨v5, v6, hL, hg⟩ := b2_ex hg
    have kx : ∀ ls : Array Slot, lv_has ls 8 [(4, .long v6), (2, .double v5)] → W p l e rX4_bitsOf s m args below meth c s.heap [] 0 0 Q (F0 m 50 ls []) := by
      intro ls hl
      refine lv_dload_n hx hb dX4_bitsOf_50 rfl (lv_at hl 1 rfl) ?_
      refine lv_dconst1 hx hb dX4_bitsOf_51 ?_
      obtain ⟨v7, hin, hv, hg⟩ := ndA_ex hg
      refine xdsub hx hb hin hv dX4_bitsOf_52 ?_
      refine lv_ldc2d hx hb hown (hts _ wd_X4_bitsOf_3) dX4_bitsOf_53 ?_
      obtain ⟨v8, hin, hv, hg⟩ := ndA_ex hg
      refine xdmul hx hb hin hv dX4_bitsOf_56 ?_
      refine lv_d2l hx hb dX4_bitsOf_57 ?_
      refine lv_lstore (lv' := [(6, .long (FP.d2l v8)), (4, .long v6), (2, .double v5)]) hx hb dX4_bitsOf_58 hl (by decide) rfl (fun ls hl => ?_)
      refine lv_lload hx hb dX4_bitsOf_60 (lv_at hl 1 rfl) ?_
      refine lv_bipush (v := 52) hx hb dX4_bitsOf_62 (by decide) ?_
      refine lv_lshl (v := (v6 <<< ((52 : Int32).toInt64 &&& 63))) hx hb dX4_bitsOf_64 rfl ?_
      refine lv_lload hx hb dX4_bitsOf_65 (lv_at hl 0 rfl) ?_
      refine lv_ladd hx hb dX4_bitsOf_67 ?_
      cases hg
      exact fin _ _ dX4_bitsOf_68
    have L : ∀ (nf : Nat) (v1 : UInt64) (v2 : Int64) (v3 : Int32), ∀ ls : Array Slot, lv_has ls 8 [(6, .int v3), (4, .long v2), (2, .double v1)] → g_X4_bitsOf_L1 nf v1 v2 v3 = some (v5, v6) → W p l e rX4_bitsOf s m args below meth c s.heap [] 0 0 Q (F0 m 18 ls []) := by
      intro nf
      induction nf with
      | zero =>
        intro v1 v2 v3 ls hl hg
        exact no_some hg
      | succ nf ih =>
        intro v1 v2 v3 ls hl hg
        rw [g_X4_bitsOf_L1] at hg
        refine lv_iload hx hb dX4_bitsOf_18 (lv_at hl 0 rfl) ?_
        refine lv_sipush (v := 1022) hx hb dX4_bitsOf_20 (by decide) ?_
        refine lv_icmp_ge (tgt := 50) hx hb dX4_bitsOf_23 (by decide) (fun hc => ?_) (fun hc => ?_)
        · replace hg := if_yes hg hc
          cases hg
          exact kx _ (lv_sub hl [1, 2] rfl)
        · replace hg := if_no hg hc
          refine lv_dload_n hx hb dX4_bitsOf_26 rfl (lv_at hl 2 rfl) ?_
          refine lv_dconst1 hx hb dX4_bitsOf_27 ?_
          refine lv_dcmp hx hb dX4_bitsOf_28 ?_
          refine lv_if_ge (tgt := 50) hx hb dX4_bitsOf_29 (by decide) (fun hc => ?_) (fun hc => ?_)
          · replace hg := if_yes hg hc
            cases hg
            exact kx _ (lv_sub hl [1, 2] rfl)
          · replace hg := if_no hg hc
            refine lv_dload_n hx hb dX4_bitsOf_32 rfl (lv_at hl 2 rfl) ?_
            refine lv_ldc2d hx hb hown (hts _ wd_X4_bitsOf_2) dX4_bitsOf_33 ?_
            obtain ⟨v4, hin, hv, hg⟩ := ndA_ex hg
            refine xdmul hx hb hin hv dX4_bitsOf_36 ?_
            refine lv_dstore_n (lv' := [(2, .double v4), (6, .int v3), (4, .long v2)]) hx hb dX4_bitsOf_37 rfl hl (by decide) rfl (fun ls hl => ?_)
            refine lv_lload hx hb dX4_bitsOf_38 (lv_at hl 2 rfl) ?_
            refine lv_lconst (v := 1) hx hb dX4_bitsOf_40 (by decide) ?_
            refine lv_lsub hx hb dX4_bitsOf_41 ?_
            refine lv_lstore (lv' := [(4, .long (v2 - 1)), (2, .double v4), (6, .int v3)]) hx hb dX4_bitsOf_42 hl (by decide) rfl (fun ls hl => ?_)
            refine lv_iinc (v := (v3 + 1)) (lv' := [(6, .int (v3 + 1)), (4, .long (v2 - 1)), (2, .double v4)]) hx hb dX4_bitsOf_44 hl (k := 2) rfl rfl (by decide) rfl (fun ls hl => ?_)
            refine lv_goto (tgt := 18) hx hb dX4_bitsOf_47 (by decide) ?_
            exact ih _ _ _ _ (lv_sub hl [0, 1, 2] rfl) hg
    exact L FU _ _ _ _ (lv_sub hl [0, 1, 2] rfl) hL
  · replace hg := if_no hg hc
    refine lv_lconst (v := 0) hx hb dX4_bitsOf_6 (by decide) ?_
    cases hg
    exact fin _ _ dX4_bitsOf_7
theorem hd_X4_digest : yX4_digest.cls = RX4 ∧ yX4_digest.cls ≠ "java/lang/invoke/MethodHandle" ∧ yX4_digest.cls ≠ "java/lang/invoke/VarHandle" ∧ (parseMethodDescriptor yX4_digest.desc).map (fun d => d.parameters.length) = some 0 := by decide +kernel
theorem wd_X4_digest_1 : Cond.constantLong RX4 194 (3701) ∈ wsX4_digest := List.mem_of_getElem? (i := 1) rfl
theorem in_X4_digest_X4 : ∀ w ∈ u_ws RX4 TX4 8, w ∈ wsX4_digest := fun _ h => List.mem_cons_of_mem _ (List.mem_append_left _ (List.mem_append_left _ (List.mem_append_left _ (List.mem_append_left _ (List.mem_append_right _ h)))))
theorem wd_X4_digest_2 : Cond.fieldLink RX4 10 "FogOrders" "opening" "LFogOrders$Opening;" ∈ wsX4_digest := List.mem_of_getElem? (i := 2) rfl
theorem wd_X4_digest_3 : Cond.fieldLink RX4 47 "FogOrders" "text" "LFogOrders$OrderText;" ∈ wsX4_digest := List.mem_of_getElem? (i := 3) rfl
abbrev rX4_digest : Room := { frames := 7, cells := 0, slots := 0, locals := 161 }
set_option maxHeartbeats 4000000 in
set_option maxRecDepth 100000 in
theorem c_X4_digest (l : Launch) (D : va_G) (cI cZ cB cJ : ClassId) (A_t : Nat) (A_t_opening : Nat) (A_t_board : Nat) (A_t_trialOpening : Nat) (A_t_trial : Nat) (A_t_history : Nat) (A_t_snapshot : Nat) (A_t_text : Nat) (A_t_history_boards : Nat) (A_t_board_numbers : Nat) (A_t_board_owners : Nat) (A_t_board_cells : Nat) (A_t_opening_cut : Nat) (A_t_opening_counts : Nat) (A_t_opening_strength : Nat) (A_t_opening_reason : Nat) (A_t_opening_driver : Nat) (A_t_opening_waits : Nat) (A_t_opening_stands : Nat) (A_t_trial_numbers : Nat) (A_t_trial_owners : Nat) (A_t_trial_cells : Nat) (A_t_trialOpening_cut : Nat) (A_t_trialOpening_counts : Nat) (A_t_trialOpening_strength : Nat) (A_t_trialOpening_reason : Nat) (A_t_trialOpening_driver : Nat) (A_t_trialOpening_waits : Nat) (A_t_trialOpening_stands : Nat) (A_t_text_codes : Nat) (sz : Nat) (V_t_hasSnapshot : Int32) (V_t_history_oldest : Int32) (V_t_history_saved : Int32) (V_t_board_numbers : Nat → Int32) (V_t_board_cells : Nat → Int32) (V_t_opening_cut : Nat → Int32) (V_t_opening_counts : Nat → Int32) (V_t_opening_strength : Nat → Int32) (V_t_opening_reason : Nat → Int32) (V_t_opening_driver : Nat → Int32) (V_t_opening_waits : Nat → Int32) (V_t_opening_stands : Nat → Int32) (V_t_trial_numbers : Nat → Int32) (V_t_board_owners : Nat → Int32) (V_t_trial_owners : Nat → Int32) (V_t_trial_cells : Nat → Int32) (V_t_trialOpening_cut : Nat → Int32) (V_t_trialOpening_counts : Nat → Int32) (V_t_trialOpening_strength : Nat → Int32) (V_t_trialOpening_reason : Nat → Int32) (V_t_text_length : Int32) (V_t_text_armyRead : Int32) (V_t_text_kindRead : Int32) (V_t_text_fromRead : Int32) (V_t_text_toRead : Int32) (V_t_text_codes : Nat → Int32) (r0 : Int64) (w1 : Nat → Int32) (w2 : Nat → Int32) (w3 : Nat → Int32) (w4 : Nat → Int32) (w5 : Nat → Int32) (w6 : Nat → Int32) (w7 : Nat → Int32) (w8 : Nat → Int32) (w9 : Nat → Int32) (w10 : Nat → Int32) (w11 : Nat → Int32) (w12 : Nat → Int32) (w13 : Nat → Int32) (w14 : Nat → Int32) (hg : g_X4_digest V_t_history_saved V_t_board_numbers V_t_board_cells V_t_opening_cut V_t_opening_counts V_t_opening_strength V_t_opening_reason V_t_opening_driver V_t_opening_waits V_t_opening_stands V_t_trial_numbers V_t_board_owners V_t_trial_owners V_t_trial_cells V_t_trialOpening_cut V_t_trialOpening_counts V_t_trialOpening_strength V_t_trialOpening_reason V_t_text_length V_t_text_codes = some (r0, w1, w2, w3, w4, w5, w6, w7, w8, w9, w10, w11, w12, w13, w14)) : Met l yX4_digest wsX4_digest rX4_digest (PcW D cI cZ cB cJ sz [(A_t, .inr (4, [.ref A_t_opening, .ref A_t_board, .ref A_t_trialOpening, .ref A_t_trial, .ref A_t_history, .ref A_t_snapshot, .int V_t_hasSnapshot, .ref A_t_text])), (A_t_history, .inr (1, [.ref A_t_history_boards, .int V_t_history_oldest, .int V_t_history_saved])), (A_t_board, .inr (0, [.ref A_t_board_numbers, .ref A_t_board_owners, .ref A_t_board_cells])), (A_t_board_numbers, .inl (cI, 10, .inl V_t_board_numbers)), (A_t_board_cells, .inl (cI, 63, .inl V_t_board_cells)), (A_t_opening, .inr (2, [.ref A_t_board, .ref A_t_opening_cut, .ref A_t_opening_counts, .ref A_t_opening_strength, .ref A_t_opening_reason, .ref A_t_opening_driver, .ref A_t_opening_waits, .ref A_t_opening_stands])), (A_t_opening_cut, .inl (cI, 9, .inl V_t_opening_cut)), (A_t_opening_counts, .inl (cI, 9, .inl V_t_opening_counts)), (A_t_opening_strength, .inl (cI, 9, .inl V_t_opening_strength)), (A_t_opening_reason, .inl (cI, 9, .inl V_t_opening_reason)), (A_t_opening_driver, .inl (cI, 9, .inl V_t_opening_driver)), (A_t_opening_waits, .inl (cI, 9, .inl V_t_opening_waits)), (A_t_opening_stands, .inl (cI, 9, .inl V_t_opening_stands)), (A_t_trial, .inr (0, [.ref A_t_trial_numbers, .ref A_t_trial_owners, .ref A_t_trial_cells])), (A_t_trial_numbers, .inl (cI, 10, .inl V_t_trial_numbers)), (A_t_board_owners, .inl (cI, 12, .inl V_t_board_owners)), (A_t_trial_owners, .inl (cI, 12, .inl V_t_trial_owners)), (A_t_trial_cells, .inl (cI, 63, .inl V_t_trial_cells)), (A_t_trialOpening, .inr (2, [.ref A_t_trial, .ref A_t_trialOpening_cut, .ref A_t_trialOpening_counts, .ref A_t_trialOpening_strength, .ref A_t_trialOpening_reason, .ref A_t_trialOpening_driver, .ref A_t_trialOpening_waits, .ref A_t_trialOpening_stands])), (A_t_trialOpening_cut, .inl (cI, 9, .inl V_t_trialOpening_cut)), (A_t_trialOpening_counts, .inl (cI, 9, .inl V_t_trialOpening_counts)), (A_t_trialOpening_strength, .inl (cI, 9, .inl V_t_trialOpening_strength)), (A_t_trialOpening_reason, .inl (cI, 9, .inl V_t_trialOpening_reason)), (A_t_text, .inr (3, [.ref A_t_text_codes, .int V_t_text_length, .int V_t_text_armyRead, .int V_t_text_kindRead, .int V_t_text_fromRead, .int V_t_text_toRead])), (A_t_text_codes, .inl (cI, 60, .inl V_t_text_codes))] [.ref A_t]) (QWl D cI cZ cB cJ sz [(A_t, .inr (4, [.ref A_t_opening, .ref A_t_board, .ref A_t_trialOpening, .ref A_t_trial, .ref A_t_history, .ref A_t_snapshot, .int V_t_hasSnapshot, .ref A_t_text])), (A_t_history, .inr (1, [.ref A_t_history_boards, .int V_t_history_oldest, .int V_t_history_saved])), (A_t_board, .inr (0, [.ref A_t_board_numbers, .ref A_t_board_owners, .ref A_t_board_cells])), (A_t_board_numbers, .inl (cI, 10, .inl V_t_board_numbers)), (A_t_board_cells, .inl (cI, 63, .inl V_t_board_cells)), (A_t_opening, .inr (2, [.ref A_t_board, .ref A_t_opening_cut, .ref A_t_opening_counts, .ref A_t_opening_strength, .ref A_t_opening_reason, .ref A_t_opening_driver, .ref A_t_opening_waits, .ref A_t_opening_stands])), (A_t_opening_cut, .inl (cI, 9, .inl V_t_opening_cut)), (A_t_opening_counts, .inl (cI, 9, .inl V_t_opening_counts)), (A_t_opening_strength, .inl (cI, 9, .inl V_t_opening_strength)), (A_t_opening_reason, .inl (cI, 9, .inl V_t_opening_reason)), (A_t_opening_driver, .inl (cI, 9, .inl V_t_opening_driver)), (A_t_opening_waits, .inl (cI, 9, .inl V_t_opening_waits)), (A_t_opening_stands, .inl (cI, 9, .inl V_t_opening_stands)), (A_t_trial, .inr (0, [.ref A_t_trial_numbers, .ref A_t_trial_owners, .ref A_t_trial_cells])), (A_t_trial_numbers, .inl (cI, 10, .inl V_t_trial_numbers)), (A_t_board_owners, .inl (cI, 12, .inl V_t_board_owners)), (A_t_trial_owners, .inl (cI, 12, .inl V_t_trial_owners)), (A_t_trial_cells, .inl (cI, 63, .inl V_t_trial_cells)), (A_t_trialOpening, .inr (2, [.ref A_t_trial, .ref A_t_trialOpening_cut, .ref A_t_trialOpening_counts, .ref A_t_trialOpening_strength, .ref A_t_trialOpening_reason, .ref A_t_trialOpening_driver, .ref A_t_trialOpening_waits, .ref A_t_trialOpening_stands])), (A_t_trialOpening_cut, .inl (cI, 9, .inl V_t_trialOpening_cut)), (A_t_trialOpening_counts, .inl (cI, 9, .inl V_t_trialOpening_counts)), (A_t_trialOpening_strength, .inl (cI, 9, .inl V_t_trialOpening_strength)), (A_t_trialOpening_reason, .inl (cI, 9, .inl V_t_trialOpening_reason)), (A_t_text, .inr (3, [.ref A_t_text_codes, .int V_t_text_length, .int V_t_text_armyRead, .int V_t_text_kindRead, .int V_t_text_fromRead, .int V_t_text_toRead])), (A_t_text_codes, .inl (cI, 60, .inl V_t_text_codes))] [(A_t, .inr (4, [.ref A_t_opening, .ref A_t_board, .ref A_t_trialOpening, .ref A_t_trial, .ref A_t_history, .ref A_t_snapshot, .int V_t_hasSnapshot, .ref A_t_text])), (A_t_history, .inr (1, [.ref A_t_history_boards, .int V_t_history_oldest, .int V_t_history_saved])), (A_t_board, .inr (0, [.ref A_t_board_numbers, .ref A_t_board_owners, .ref A_t_board_cells])), (A_t_board_numbers, .inl (cI, 10, .inl V_t_board_numbers)), (A_t_board_cells, .inl (cI, 63, .inl V_t_board_cells)), (A_t_opening, .inr (2, [.ref A_t_board, .ref A_t_opening_cut, .ref A_t_opening_counts, .ref A_t_opening_strength, .ref A_t_opening_reason, .ref A_t_opening_driver, .ref A_t_opening_waits, .ref A_t_opening_stands])), (A_t_opening_cut, .inl (cI, 9, .inl w1)), (A_t_opening_counts, .inl (cI, 9, .inl w2)), (A_t_opening_strength, .inl (cI, 9, .inl w3)), (A_t_opening_reason, .inl (cI, 9, .inl w4)), (A_t_opening_driver, .inl (cI, 9, .inl w5)), (A_t_opening_waits, .inl (cI, 9, .inl w6)), (A_t_opening_stands, .inl (cI, 9, .inl w7)), (A_t_trial, .inr (0, [.ref A_t_trial_numbers, .ref A_t_trial_owners, .ref A_t_trial_cells])), (A_t_trial_numbers, .inl (cI, 10, .inl w8)), (A_t_board_owners, .inl (cI, 12, .inl V_t_board_owners)), (A_t_trial_owners, .inl (cI, 12, .inl w9)), (A_t_trial_cells, .inl (cI, 63, .inl w10)), (A_t_trialOpening, .inr (2, [.ref A_t_trial, .ref A_t_trialOpening_cut, .ref A_t_trialOpening_counts, .ref A_t_trialOpening_strength, .ref A_t_trialOpening_reason, .ref A_t_trialOpening_driver, .ref A_t_trialOpening_waits, .ref A_t_trialOpening_stands])), (A_t_trialOpening_cut, .inl (cI, 9, .inl w11)), (A_t_trialOpening_counts, .inl (cI, 9, .inl w12)), (A_t_trialOpening_strength, .inl (cI, 9, .inl w13)), (A_t_trialOpening_reason, .inl (cI, 9, .inl w14)), (A_t_text, .inr (3, [.ref A_t_text_codes, .int V_t_text_length, .int V_t_text_armyRead, .int V_t_text_kindRead, .int V_t_text_fromRead, .int V_t_text_toRead])), (A_t_text_codes, .inl (cI, 60, .inl V_t_text_codes))] r0) 0 0 (va_A [(A_t, .inr (4, [.ref A_t_opening, .ref A_t_board, .ref A_t_trialOpening, .ref A_t_trial, .ref A_t_history, .ref A_t_snapshot, .int V_t_hasSnapshot, .ref A_t_text])), (A_t_history, .inr (1, [.ref A_t_history_boards, .int V_t_history_oldest, .int V_t_history_saved])), (A_t_board, .inr (0, [.ref A_t_board_numbers, .ref A_t_board_owners, .ref A_t_board_cells])), (A_t_board_numbers, .inl (cI, 10, .inl V_t_board_numbers)), (A_t_board_cells, .inl (cI, 63, .inl V_t_board_cells)), (A_t_opening, .inr (2, [.ref A_t_board, .ref A_t_opening_cut, .ref A_t_opening_counts, .ref A_t_opening_strength, .ref A_t_opening_reason, .ref A_t_opening_driver, .ref A_t_opening_waits, .ref A_t_opening_stands])), (A_t_opening_cut, .inl (cI, 9, .inl V_t_opening_cut)), (A_t_opening_counts, .inl (cI, 9, .inl V_t_opening_counts)), (A_t_opening_strength, .inl (cI, 9, .inl V_t_opening_strength)), (A_t_opening_reason, .inl (cI, 9, .inl V_t_opening_reason)), (A_t_opening_driver, .inl (cI, 9, .inl V_t_opening_driver)), (A_t_opening_waits, .inl (cI, 9, .inl V_t_opening_waits)), (A_t_opening_stands, .inl (cI, 9, .inl V_t_opening_stands)), (A_t_trial, .inr (0, [.ref A_t_trial_numbers, .ref A_t_trial_owners, .ref A_t_trial_cells])), (A_t_trial_numbers, .inl (cI, 10, .inl V_t_trial_numbers)), (A_t_board_owners, .inl (cI, 12, .inl V_t_board_owners)), (A_t_trial_owners, .inl (cI, 12, .inl V_t_trial_owners)), (A_t_trial_cells, .inl (cI, 63, .inl V_t_trial_cells)), (A_t_trialOpening, .inr (2, [.ref A_t_trial, .ref A_t_trialOpening_cut, .ref A_t_trialOpening_counts, .ref A_t_trialOpening_strength, .ref A_t_trialOpening_reason, .ref A_t_trialOpening_driver, .ref A_t_trialOpening_waits, .ref A_t_trialOpening_stands])), (A_t_trialOpening_cut, .inl (cI, 9, .inl V_t_trialOpening_cut)), (A_t_trialOpening_counts, .inl (cI, 9, .inl V_t_trialOpening_counts)), (A_t_trialOpening_strength, .inl (cI, 9, .inl V_t_trialOpening_strength)), (A_t_trialOpening_reason, .inl (cI, 9, .inl V_t_trialOpening_reason)), (A_t_text, .inr (3, [.ref A_t_text_codes, .int V_t_text_length, .int V_t_text_armyRead, .int V_t_text_kindRead, .int V_t_text_fromRead, .int V_t_text_toRead])), (A_t_text_codes, .inl (cI, 60, .inl V_t_text_codes))] sz) := by
  refine bodyWl (cc := cX4_digest) (maxL := 4) (lv := [(0, .ref A_t)]) (by decide) rfl (Nat.le_of_ble_eq_true rfl) rfl ?_
  intro p e s m args below meth c Q hx hb hml hown hts A hP hK hD hA hS fin ls hl
  replace hown : s.vm.findClass RX4 = some m.cls := hown
  have S : CallFix p m c cX4_digest 4 s args wsX4_digest RX4 := ⟨hx, hb, hml, hown, hts⟩
  unfold g_X4_digest at hg
  refine lv_ldc2 hx hb hown (hts _ wd_X4_digest_1) dX4_digest_0 ?_
  refine lv_lstore_n (lv' := [(1, .long 3701), (0, .ref A_t)]) hx hb dX4_digest_3 rfl hl (by decide) rfl (fun ls hl => ?_)
  refine lv_iconst (v := 0) hx hb dX4_digest_4 (by decide) ?_
  refine lv_istore_n (lv' := [(3, .int 0), (1, .long 3701), (0, .ref A_t)]) hx hb dX4_digest_5 rfl hl (by decide) rfl (fun ls hl => ?_)
  obtain ⟨v5, hL, hg⟩ := bind_ex hg
  have kx : ∀ (H : Heap) (locs : List Loc), va_P D vwCl [(A_t, .inr (4, [.ref A_t_opening, .ref A_t_board, .ref A_t_trialOpening, .ref A_t_trial, .ref A_t_history, .ref A_t_snapshot, .int V_t_hasSnapshot, .ref A_t_text])), (A_t_history, .inr (1, [.ref A_t_history_boards, .int V_t_history_oldest, .int V_t_history_saved])), (A_t_board, .inr (0, [.ref A_t_board_numbers, .ref A_t_board_owners, .ref A_t_board_cells])), (A_t_board_numbers, .inl (cI, 10, .inl V_t_board_numbers)), (A_t_board_cells, .inl (cI, 63, .inl V_t_board_cells)), (A_t_opening, .inr (2, [.ref A_t_board, .ref A_t_opening_cut, .ref A_t_opening_counts, .ref A_t_opening_strength, .ref A_t_opening_reason, .ref A_t_opening_driver, .ref A_t_opening_waits, .ref A_t_opening_stands])), (A_t_opening_cut, .inl (cI, 9, .inl V_t_opening_cut)), (A_t_opening_counts, .inl (cI, 9, .inl V_t_opening_counts)), (A_t_opening_strength, .inl (cI, 9, .inl V_t_opening_strength)), (A_t_opening_reason, .inl (cI, 9, .inl V_t_opening_reason)), (A_t_opening_driver, .inl (cI, 9, .inl V_t_opening_driver)), (A_t_opening_waits, .inl (cI, 9, .inl V_t_opening_waits)), (A_t_opening_stands, .inl (cI, 9, .inl V_t_opening_stands)), (A_t_trial, .inr (0, [.ref A_t_trial_numbers, .ref A_t_trial_owners, .ref A_t_trial_cells])), (A_t_trial_numbers, .inl (cI, 10, .inl V_t_trial_numbers)), (A_t_board_owners, .inl (cI, 12, .inl V_t_board_owners)), (A_t_trial_owners, .inl (cI, 12, .inl V_t_trial_owners)), (A_t_trial_cells, .inl (cI, 63, .inl V_t_trial_cells)), (A_t_trialOpening, .inr (2, [.ref A_t_trial, .ref A_t_trialOpening_cut, .ref A_t_trialOpening_counts, .ref A_t_trialOpening_strength, .ref A_t_trialOpening_reason, .ref A_t_trialOpening_driver, .ref A_t_trialOpening_waits, .ref A_t_trialOpening_stands])), (A_t_trialOpening_cut, .inl (cI, 9, .inl V_t_trialOpening_cut)), (A_t_trialOpening_counts, .inl (cI, 9, .inl V_t_trialOpening_counts)), (A_t_trialOpening_strength, .inl (cI, 9, .inl V_t_trialOpening_strength)), (A_t_trialOpening_reason, .inl (cI, 9, .inl V_t_trialOpening_reason)), (A_t_text, .inr (3, [.ref A_t_text_codes, .int V_t_text_length, .int V_t_text_armyRead, .int V_t_text_kindRead, .int V_t_text_fromRead, .int V_t_text_toRead])), (A_t_text_codes, .inl (cI, 60, .inl V_t_text_codes))] H → va_D A [(A_t, .inr (4, [.ref A_t_opening, .ref A_t_board, .ref A_t_trialOpening, .ref A_t_trial, .ref A_t_history, .ref A_t_snapshot, .int V_t_hasSnapshot, .ref A_t_text])), (A_t_history, .inr (1, [.ref A_t_history_boards, .int V_t_history_oldest, .int V_t_history_saved])), (A_t_board, .inr (0, [.ref A_t_board_numbers, .ref A_t_board_owners, .ref A_t_board_cells])), (A_t_board_numbers, .inl (cI, 10, .inl V_t_board_numbers)), (A_t_board_cells, .inl (cI, 63, .inl V_t_board_cells)), (A_t_opening, .inr (2, [.ref A_t_board, .ref A_t_opening_cut, .ref A_t_opening_counts, .ref A_t_opening_strength, .ref A_t_opening_reason, .ref A_t_opening_driver, .ref A_t_opening_waits, .ref A_t_opening_stands])), (A_t_opening_cut, .inl (cI, 9, .inl V_t_opening_cut)), (A_t_opening_counts, .inl (cI, 9, .inl V_t_opening_counts)), (A_t_opening_strength, .inl (cI, 9, .inl V_t_opening_strength)), (A_t_opening_reason, .inl (cI, 9, .inl V_t_opening_reason)), (A_t_opening_driver, .inl (cI, 9, .inl V_t_opening_driver)), (A_t_opening_waits, .inl (cI, 9, .inl V_t_opening_waits)), (A_t_opening_stands, .inl (cI, 9, .inl V_t_opening_stands)), (A_t_trial, .inr (0, [.ref A_t_trial_numbers, .ref A_t_trial_owners, .ref A_t_trial_cells])), (A_t_trial_numbers, .inl (cI, 10, .inl V_t_trial_numbers)), (A_t_board_owners, .inl (cI, 12, .inl V_t_board_owners)), (A_t_trial_owners, .inl (cI, 12, .inl V_t_trial_owners)), (A_t_trial_cells, .inl (cI, 63, .inl V_t_trial_cells)), (A_t_trialOpening, .inr (2, [.ref A_t_trial, .ref A_t_trialOpening_cut, .ref A_t_trialOpening_counts, .ref A_t_trialOpening_strength, .ref A_t_trialOpening_reason, .ref A_t_trialOpening_driver, .ref A_t_trialOpening_waits, .ref A_t_trialOpening_stands])), (A_t_trialOpening_cut, .inl (cI, 9, .inl V_t_trialOpening_cut)), (A_t_trialOpening_counts, .inl (cI, 9, .inl V_t_trialOpening_counts)), (A_t_trialOpening_strength, .inl (cI, 9, .inl V_t_trialOpening_strength)), (A_t_trialOpening_reason, .inl (cI, 9, .inl V_t_trialOpening_reason)), (A_t_text, .inr (3, [.ref A_t_text_codes, .int V_t_text_length, .int V_t_text_armyRead, .int V_t_text_kindRead, .int V_t_text_fromRead, .int V_t_text_toRead])), (A_t_text_codes, .inl (cI, 60, .inl V_t_text_codes))] → va_S A s.heap H locs → ∀ ls : Array Slot, lv_has ls 4 [(1, .long v5), (0, .ref A_t)] → W p l e rX4_digest s m args below meth c H locs 0 0 Q (F0 m 29 ls []) := by
    intro H locs hP hD hS ls hl
    refine lv_aload_n hx hb dX4_digest_29 rfl (lv_at hl 1 rfl) ?_
    refine xget (ci := 4) (C := RX4) (T := TX4) (N := 8) (v := .ref A_t_opening) hx hb hts in_X4_digest_X4 hown hK hP 0 rfl rfl 0 (by decide) wd_X4_digest_2 rfl dX4_digest_30 ?_
    obtain ⟨f6, f7, f8, f9, f10, f11, f12, hq, hg⟩ := b7_ex hg
    refine callWVv (As := []) (rest := []) (wr := [(A_t, .inr (4, [.ref A_t_opening, .ref A_t_board, .ref A_t_trialOpening, .ref A_t_trial, .ref A_t_history, .ref A_t_snapshot, .int V_t_hasSnapshot, .ref A_t_text])), (A_t_history, .inr (1, [.ref A_t_history_boards, .int V_t_history_oldest, .int V_t_history_saved])), (A_t_trial, .inr (0, [.ref A_t_trial_numbers, .ref A_t_trial_owners, .ref A_t_trial_cells])), (A_t_trial_numbers, .inl (cI, 10, .inl V_t_trial_numbers)), (A_t_board_owners, .inl (cI, 12, .inl V_t_board_owners)), (A_t_trial_owners, .inl (cI, 12, .inl V_t_trial_owners)), (A_t_trial_cells, .inl (cI, 63, .inl V_t_trial_cells)), (A_t_trialOpening, .inr (2, [.ref A_t_trial, .ref A_t_trialOpening_cut, .ref A_t_trialOpening_counts, .ref A_t_trialOpening_strength, .ref A_t_trialOpening_reason, .ref A_t_trialOpening_driver, .ref A_t_trialOpening_waits, .ref A_t_trialOpening_stands])), (A_t_trialOpening_cut, .inl (cI, 9, .inl V_t_trialOpening_cut)), (A_t_trialOpening_counts, .inl (cI, 9, .inl V_t_trialOpening_counts)), (A_t_trialOpening_strength, .inl (cI, 9, .inl V_t_trialOpening_strength)), (A_t_trialOpening_reason, .inl (cI, 9, .inl V_t_trialOpening_reason)), (A_t_text, .inr (3, [.ref A_t_text_codes, .int V_t_text_length, .int V_t_text_armyRead, .int V_t_text_kindRead, .int V_t_text_fromRead, .int V_t_text_toRead])), (A_t_text_codes, .inl (cI, 60, .inl V_t_text_codes))]) S hK hP hD hS hA (c_X2_study l D cI cZ cB cJ A_t_opening A_t_board A_t_opening_cut A_t_opening_counts A_t_opening_strength A_t_opening_reason A_t_opening_driver A_t_opening_waits A_t_opening_stands A_t_board_numbers A_t_board_owners A_t_board_cells _ V_t_board_numbers V_t_board_cells V_t_opening_cut V_t_opening_counts V_t_opening_strength V_t_opening_reason V_t_opening_driver V_t_opening_waits V_t_opening_stands f6 f7 f8 f9 f10 f11 f12 hq) [5, 2, 3, 4, 6, 7, 8, 9, 10, 11, 12] [0, 1, 13, 14, 15, 16, 17, 18, 19, 20, 21, 22, 23, 24] rfl rfl (by decide +kernel) (by decide +kernel) (by decide +kernel) (cwV 0 hts gX4_digest_X2_study rfl rfl rfl hd_X2_study ⟨Nat.le_of_ble_eq_true rfl, Nat.le_of_ble_eq_true rfl⟩) rfl rfl rfl hl.1 rfl (Nat.le_of_ble_eq_true rfl) dX4_digest_33 ⟨Nat.zero_le _, Nat.zero_le _⟩ (fun H locs hP hD hS => ?_)
    replace hP : va_P D vwCl [(A_t, .inr (4, [.ref A_t_opening, .ref A_t_board, .ref A_t_trialOpening, .ref A_t_trial, .ref A_t_history, .ref A_t_snapshot, .int V_t_hasSnapshot, .ref A_t_text])), (A_t_history, .inr (1, [.ref A_t_history_boards, .int V_t_history_oldest, .int V_t_history_saved])), (A_t_trial, .inr (0, [.ref A_t_trial_numbers, .ref A_t_trial_owners, .ref A_t_trial_cells])), (A_t_trial_numbers, .inl (cI, 10, .inl V_t_trial_numbers)), (A_t_board_owners, .inl (cI, 12, .inl V_t_board_owners)), (A_t_trial_owners, .inl (cI, 12, .inl V_t_trial_owners)), (A_t_trial_cells, .inl (cI, 63, .inl V_t_trial_cells)), (A_t_trialOpening, .inr (2, [.ref A_t_trial, .ref A_t_trialOpening_cut, .ref A_t_trialOpening_counts, .ref A_t_trialOpening_strength, .ref A_t_trialOpening_reason, .ref A_t_trialOpening_driver, .ref A_t_trialOpening_waits, .ref A_t_trialOpening_stands])), (A_t_trialOpening_cut, .inl (cI, 9, .inl V_t_trialOpening_cut)), (A_t_trialOpening_counts, .inl (cI, 9, .inl V_t_trialOpening_counts)), (A_t_trialOpening_strength, .inl (cI, 9, .inl V_t_trialOpening_strength)), (A_t_trialOpening_reason, .inl (cI, 9, .inl V_t_trialOpening_reason)), (A_t_text, .inr (3, [.ref A_t_text_codes, .int V_t_text_length, .int V_t_text_armyRead, .int V_t_text_kindRead, .int V_t_text_fromRead, .int V_t_text_toRead])), (A_t_text_codes, .inl (cI, 60, .inl V_t_text_codes)), (A_t_opening, .inr (2, [.ref A_t_board, .ref A_t_opening_cut, .ref A_t_opening_counts, .ref A_t_opening_strength, .ref A_t_opening_reason, .ref A_t_opening_driver, .ref A_t_opening_waits, .ref A_t_opening_stands])), (A_t_board, .inr (0, [.ref A_t_board_numbers, .ref A_t_board_owners, .ref A_t_board_cells])), (A_t_board_numbers, .inl (cI, 10, .inl V_t_board_numbers)), (A_t_board_cells, .inl (cI, 63, .inl V_t_board_cells)), (A_t_opening_cut, .inl (cI, 9, .inl f6)), (A_t_opening_counts, .inl (cI, 9, .inl f7)), (A_t_opening_strength, .inl (cI, 9, .inl f8)), (A_t_opening_reason, .inl (cI, 9, .inl f9)), (A_t_opening_driver, .inl (cI, 9, .inl f10)), (A_t_opening_waits, .inl (cI, 9, .inl f11)), (A_t_opening_stands, .inl (cI, 9, .inl f12))] H := hP
    replace hD : va_D A [(A_t, .inr (4, [.ref A_t_opening, .ref A_t_board, .ref A_t_trialOpening, .ref A_t_trial, .ref A_t_history, .ref A_t_snapshot, .int V_t_hasSnapshot, .ref A_t_text])), (A_t_history, .inr (1, [.ref A_t_history_boards, .int V_t_history_oldest, .int V_t_history_saved])), (A_t_trial, .inr (0, [.ref A_t_trial_numbers, .ref A_t_trial_owners, .ref A_t_trial_cells])), (A_t_trial_numbers, .inl (cI, 10, .inl V_t_trial_numbers)), (A_t_board_owners, .inl (cI, 12, .inl V_t_board_owners)), (A_t_trial_owners, .inl (cI, 12, .inl V_t_trial_owners)), (A_t_trial_cells, .inl (cI, 63, .inl V_t_trial_cells)), (A_t_trialOpening, .inr (2, [.ref A_t_trial, .ref A_t_trialOpening_cut, .ref A_t_trialOpening_counts, .ref A_t_trialOpening_strength, .ref A_t_trialOpening_reason, .ref A_t_trialOpening_driver, .ref A_t_trialOpening_waits, .ref A_t_trialOpening_stands])), (A_t_trialOpening_cut, .inl (cI, 9, .inl V_t_trialOpening_cut)), (A_t_trialOpening_counts, .inl (cI, 9, .inl V_t_trialOpening_counts)), (A_t_trialOpening_strength, .inl (cI, 9, .inl V_t_trialOpening_strength)), (A_t_trialOpening_reason, .inl (cI, 9, .inl V_t_trialOpening_reason)), (A_t_text, .inr (3, [.ref A_t_text_codes, .int V_t_text_length, .int V_t_text_armyRead, .int V_t_text_kindRead, .int V_t_text_fromRead, .int V_t_text_toRead])), (A_t_text_codes, .inl (cI, 60, .inl V_t_text_codes)), (A_t_opening, .inr (2, [.ref A_t_board, .ref A_t_opening_cut, .ref A_t_opening_counts, .ref A_t_opening_strength, .ref A_t_opening_reason, .ref A_t_opening_driver, .ref A_t_opening_waits, .ref A_t_opening_stands])), (A_t_board, .inr (0, [.ref A_t_board_numbers, .ref A_t_board_owners, .ref A_t_board_cells])), (A_t_board_numbers, .inl (cI, 10, .inl V_t_board_numbers)), (A_t_board_cells, .inl (cI, 63, .inl V_t_board_cells)), (A_t_opening_cut, .inl (cI, 9, .inl f6)), (A_t_opening_counts, .inl (cI, 9, .inl f7)), (A_t_opening_strength, .inl (cI, 9, .inl f8)), (A_t_opening_reason, .inl (cI, 9, .inl f9)), (A_t_opening_driver, .inl (cI, 9, .inl f10)), (A_t_opening_waits, .inl (cI, 9, .inl f11)), (A_t_opening_stands, .inl (cI, 9, .inl f12))] := hD
    refine lv_aload_n hx hb dX4_digest_36 rfl (lv_at hl 1 rfl) ?_
    refine lv_lload_n hx hb dX4_digest_37 rfl (lv_at hl 0 rfl) ?_
    obtain ⟨v20, f13, f14, f15, f16, f17, f18, f19, hq, hg⟩ := b8_ex hg
    refine callWVl (As := [.long v5]) (rest := []) (wr := [(A_t_history, .inr (1, [.ref A_t_history_boards, .int V_t_history_oldest, .int V_t_history_saved])), (A_t_text, .inr (3, [.ref A_t_text_codes, .int V_t_text_length, .int V_t_text_armyRead, .int V_t_text_kindRead, .int V_t_text_fromRead, .int V_t_text_toRead])), (A_t_text_codes, .inl (cI, 60, .inl V_t_text_codes)), (A_t_opening_waits, .inl (cI, 9, .inl f11))]) S hK hP hD hS hA (c_X4_mixedArmies l D cI cZ cB cJ A_t A_t_opening A_t_board A_t_trialOpening A_t_trial A_t_history A_t_snapshot A_t_text A_t_board_numbers A_t_board_owners A_t_board_cells A_t_opening_cut A_t_opening_counts A_t_opening_strength A_t_opening_reason A_t_opening_driver A_t_opening_waits A_t_opening_stands A_t_trial_numbers A_t_trial_owners A_t_trial_cells A_t_trialOpening_cut A_t_trialOpening_counts A_t_trialOpening_strength A_t_trialOpening_reason A_t_trialOpening_driver A_t_trialOpening_waits A_t_trialOpening_stands _ V_t_hasSnapshot V_t_board_numbers V_t_board_cells f12 f8 f9 f10 f7 f6 V_t_trial_numbers V_t_board_owners V_t_trial_owners V_t_trial_cells V_t_trialOpening_cut V_t_trialOpening_counts V_t_trialOpening_strength V_t_trialOpening_reason v5 v20 f13 f14 f15 f16 f17 f18 f19 hq) [0, 15, 16, 17, 14, 24, 20, 21, 22, 19, 18, 2, 3, 4, 5, 6, 7, 8, 9, 10, 11] [1, 12, 13, 23] rfl rfl (by decide +kernel) (by decide +kernel) (by decide +kernel) (cwV 1 hts gX4_digest_X4_mixedArmies rfl rfl rfl hd_X4_mixedArmies ⟨Nat.le_of_ble_eq_true rfl, Nat.le_of_ble_eq_true rfl⟩) rfl rfl rfl hl.1 rfl (Nat.le_of_ble_eq_true rfl) dX4_digest_38 ⟨Nat.zero_le _, Nat.zero_le _⟩ (fun H locs hP hD hS => ?_)
    replace hP : va_P D vwCl [(A_t_history, .inr (1, [.ref A_t_history_boards, .int V_t_history_oldest, .int V_t_history_saved])), (A_t_text, .inr (3, [.ref A_t_text_codes, .int V_t_text_length, .int V_t_text_armyRead, .int V_t_text_kindRead, .int V_t_text_fromRead, .int V_t_text_toRead])), (A_t_text_codes, .inl (cI, 60, .inl V_t_text_codes)), (A_t_opening_waits, .inl (cI, 9, .inl f11)), (A_t, .inr (4, [.ref A_t_opening, .ref A_t_board, .ref A_t_trialOpening, .ref A_t_trial, .ref A_t_history, .ref A_t_snapshot, .int V_t_hasSnapshot, .ref A_t_text])), (A_t_board, .inr (0, [.ref A_t_board_numbers, .ref A_t_board_owners, .ref A_t_board_cells])), (A_t_board_numbers, .inl (cI, 10, .inl V_t_board_numbers)), (A_t_board_cells, .inl (cI, 63, .inl V_t_board_cells)), (A_t_opening, .inr (2, [.ref A_t_board, .ref A_t_opening_cut, .ref A_t_opening_counts, .ref A_t_opening_strength, .ref A_t_opening_reason, .ref A_t_opening_driver, .ref A_t_opening_waits, .ref A_t_opening_stands])), (A_t_opening_stands, .inl (cI, 9, .inl f12)), (A_t_opening_strength, .inl (cI, 9, .inl f8)), (A_t_opening_reason, .inl (cI, 9, .inl f9)), (A_t_opening_driver, .inl (cI, 9, .inl f10)), (A_t_opening_counts, .inl (cI, 9, .inl f7)), (A_t_opening_cut, .inl (cI, 9, .inl f6)), (A_t_trial, .inr (0, [.ref A_t_trial_numbers, .ref A_t_trial_owners, .ref A_t_trial_cells])), (A_t_trial_numbers, .inl (cI, 10, .inl f13)), (A_t_board_owners, .inl (cI, 12, .inl V_t_board_owners)), (A_t_trial_owners, .inl (cI, 12, .inl f14)), (A_t_trial_cells, .inl (cI, 63, .inl f15)), (A_t_trialOpening, .inr (2, [.ref A_t_trial, .ref A_t_trialOpening_cut, .ref A_t_trialOpening_counts, .ref A_t_trialOpening_strength, .ref A_t_trialOpening_reason, .ref A_t_trialOpening_driver, .ref A_t_trialOpening_waits, .ref A_t_trialOpening_stands])), (A_t_trialOpening_cut, .inl (cI, 9, .inl f16)), (A_t_trialOpening_counts, .inl (cI, 9, .inl f17)), (A_t_trialOpening_strength, .inl (cI, 9, .inl f18)), (A_t_trialOpening_reason, .inl (cI, 9, .inl f19))] H := hP
    replace hD : va_D A [(A_t_history, .inr (1, [.ref A_t_history_boards, .int V_t_history_oldest, .int V_t_history_saved])), (A_t_text, .inr (3, [.ref A_t_text_codes, .int V_t_text_length, .int V_t_text_armyRead, .int V_t_text_kindRead, .int V_t_text_fromRead, .int V_t_text_toRead])), (A_t_text_codes, .inl (cI, 60, .inl V_t_text_codes)), (A_t_opening_waits, .inl (cI, 9, .inl f11)), (A_t, .inr (4, [.ref A_t_opening, .ref A_t_board, .ref A_t_trialOpening, .ref A_t_trial, .ref A_t_history, .ref A_t_snapshot, .int V_t_hasSnapshot, .ref A_t_text])), (A_t_board, .inr (0, [.ref A_t_board_numbers, .ref A_t_board_owners, .ref A_t_board_cells])), (A_t_board_numbers, .inl (cI, 10, .inl V_t_board_numbers)), (A_t_board_cells, .inl (cI, 63, .inl V_t_board_cells)), (A_t_opening, .inr (2, [.ref A_t_board, .ref A_t_opening_cut, .ref A_t_opening_counts, .ref A_t_opening_strength, .ref A_t_opening_reason, .ref A_t_opening_driver, .ref A_t_opening_waits, .ref A_t_opening_stands])), (A_t_opening_stands, .inl (cI, 9, .inl f12)), (A_t_opening_strength, .inl (cI, 9, .inl f8)), (A_t_opening_reason, .inl (cI, 9, .inl f9)), (A_t_opening_driver, .inl (cI, 9, .inl f10)), (A_t_opening_counts, .inl (cI, 9, .inl f7)), (A_t_opening_cut, .inl (cI, 9, .inl f6)), (A_t_trial, .inr (0, [.ref A_t_trial_numbers, .ref A_t_trial_owners, .ref A_t_trial_cells])), (A_t_trial_numbers, .inl (cI, 10, .inl f13)), (A_t_board_owners, .inl (cI, 12, .inl V_t_board_owners)), (A_t_trial_owners, .inl (cI, 12, .inl f14)), (A_t_trial_cells, .inl (cI, 63, .inl f15)), (A_t_trialOpening, .inr (2, [.ref A_t_trial, .ref A_t_trialOpening_cut, .ref A_t_trialOpening_counts, .ref A_t_trialOpening_strength, .ref A_t_trialOpening_reason, .ref A_t_trialOpening_driver, .ref A_t_trialOpening_waits, .ref A_t_trialOpening_stands])), (A_t_trialOpening_cut, .inl (cI, 9, .inl f16)), (A_t_trialOpening_counts, .inl (cI, 9, .inl f17)), (A_t_trialOpening_strength, .inl (cI, 9, .inl f18)), (A_t_trialOpening_reason, .inl (cI, 9, .inl f19))] := hD
    refine lv_lstore_n (lv' := [(1, .long v20), (0, .ref A_t)]) hx hb dX4_digest_41 rfl hl (by decide) rfl (fun ls hl => ?_)
    refine lv_aload_n hx hb dX4_digest_42 rfl (lv_at hl 1 rfl) ?_
    refine lv_lload_n hx hb dX4_digest_43 rfl (lv_at hl 0 rfl) ?_
    obtain ⟨v21, hq, hg⟩ := bind_ex hg
    refine callRVl (As := [.long v20]) (rest := []) S hK hP (c_X4_mixedFields l D cI cZ cB cJ A_t A_t_opening A_t_board A_t_trialOpening A_t_trial A_t_history A_t_snapshot A_t_text A_t_board_numbers A_t_board_owners A_t_board_cells V_t_hasSnapshot V_t_board_numbers V_t_board_cells V_t_board_owners v20 v21 hq) [4, 5, 6, 7, 17] rfl (cwV 1 hts gX4_digest_X4_mixedFields rfl rfl rfl hd_X4_mixedFields ⟨Nat.le_of_ble_eq_true rfl, Nat.le_of_ble_eq_true rfl⟩) rfl rfl rfl hl.1 rfl (Nat.le_of_ble_eq_true rfl) dX4_digest_44 ⟨Nat.zero_le _, Nat.zero_le _⟩ ?_
    refine lv_lstore_n (lv' := [(1, .long v21), (0, .ref A_t)]) hx hb dX4_digest_47 rfl hl (by decide) rfl (fun ls hl => ?_)
    refine lv_aload_n hx hb dX4_digest_48 rfl (lv_at hl 1 rfl) ?_
    refine lv_lload_n hx hb dX4_digest_49 rfl (lv_at hl 0 rfl) ?_
    obtain ⟨v22, hq, hg⟩ := bind_ex hg
    refine callRVl (As := [.long v21]) (rest := []) S hK hP (c_X4_mixedSeats l D cI cZ cB cJ A_t A_t_opening A_t_board A_t_trialOpening A_t_trial A_t_history A_t_snapshot A_t_text A_t_board_numbers A_t_board_owners A_t_board_cells A_t_opening_cut A_t_opening_counts A_t_opening_strength A_t_opening_reason A_t_opening_driver A_t_opening_waits A_t_opening_stands V_t_hasSnapshot V_t_board_numbers V_t_board_cells V_t_board_owners f12 v21 v22 hq) [4, 5, 6, 7, 17, 8, 9] rfl (cwV 1 hts gX4_digest_X4_mixedSeats rfl rfl rfl hd_X4_mixedSeats ⟨Nat.le_of_ble_eq_true rfl, Nat.le_of_ble_eq_true rfl⟩) rfl rfl rfl hl.1 rfl (Nat.le_of_ble_eq_true rfl) dX4_digest_50 ⟨Nat.zero_le _, Nat.zero_le _⟩ ?_
    refine lv_lstore_n (lv' := [(1, .long v22), (0, .ref A_t)]) hx hb dX4_digest_53 rfl hl (by decide) rfl (fun ls hl => ?_)
    refine lv_lload_n hx hb dX4_digest_54 rfl (lv_at hl 0 rfl) ?_
    refine lv_aload_n hx hb dX4_digest_55 rfl (lv_at hl 1 rfl) ?_
    refine xget (ci := 4) (C := RX4) (T := TX4) (N := 8) (v := .ref A_t_opening) hx hb hts in_X4_digest_X4 hown hK hP 4 rfl rfl 0 (by decide) wd_X4_digest_2 rfl dX4_digest_56 ?_
    obtain ⟨v23, hq, hg⟩ := bind_ex hg
    refine callRVi (As := []) (rest := [.long v22]) S hK hP (c_X2_mostInDanger l D cI cZ cB cJ A_t_opening A_t_board A_t_opening_cut A_t_opening_counts A_t_opening_strength A_t_opening_reason A_t_opening_driver A_t_opening_waits A_t_opening_stands A_t_board_numbers A_t_board_owners A_t_board_cells V_t_board_numbers f10 f11 f8 v23 hq) [8, 5, 6, 12, 3, 10] rfl (cwV 0 hts gX4_digest_X2_mostInDanger rfl rfl rfl hd_X2_mostInDanger ⟨Nat.le_of_ble_eq_true rfl, Nat.le_of_ble_eq_true rfl⟩) rfl rfl rfl hl.1 rfl (Nat.le_of_ble_eq_true rfl) dX4_digest_59 ⟨Nat.zero_le _, Nat.zero_le _⟩ ?_
    refine lv_i2l (v := v23.toInt64) hx hb dX4_digest_62 rfl ?_
    obtain ⟨v24, hq, hg⟩ := bind_ex hg
    refine callRSl (As := [.long v22, .long v23.toInt64]) (rest := []) S hK hP (c_X4_mixed l D cI cZ cB cJ v22 v23.toInt64 v24 hq) [] rfl (va_cwS 2 hts gX4_digest_X4_mixed rfl rfl rfl hd_X4_mixed ⟨Nat.le_of_ble_eq_true rfl, Nat.le_of_ble_eq_true rfl⟩) rfl hl.1 rfl (Nat.le_of_ble_eq_true rfl) dX4_digest_63 ⟨Nat.zero_le _, Nat.zero_le _⟩ ?_
    refine lv_lstore_n (lv' := [(1, .long v24), (0, .ref A_t)]) hx hb dX4_digest_66 rfl hl (by decide) rfl (fun ls hl => ?_)
    refine lv_lload_n hx hb dX4_digest_67 rfl (lv_at hl 0 rfl) ?_
    refine lv_aload_n hx hb dX4_digest_68 rfl (lv_at hl 1 rfl) ?_
    obtain ⟨v25, hq, hg⟩ := bind_ex hg
    refine callRVd (As := []) (rest := [.long v24]) S hK hP (c_X4_successShare l D cI cZ cB cJ A_t A_t_opening A_t_board A_t_trialOpening A_t_trial A_t_history A_t_snapshot A_t_text A_t_board_numbers A_t_board_owners A_t_board_cells V_t_hasSnapshot V_t_board_numbers v25 hq) [4, 5, 6] rfl (cwV 0 hts gX4_digest_X4_successShare rfl rfl rfl hd_X4_successShare ⟨Nat.le_of_ble_eq_true rfl, Nat.le_of_ble_eq_true rfl⟩) rfl rfl rfl hl.1 rfl (Nat.le_of_ble_eq_true rfl) dX4_digest_69 ⟨Nat.zero_le _, Nat.zero_le _⟩ ?_
    obtain ⟨v26, hq, hg⟩ := bind_ex hg
    refine callRSl (As := [.double v25]) (rest := [.long v24]) S hK hP (c_X4_bitsOf l D cI cZ cB cJ v25 v26 hq) [] rfl (va_cwS 1 hts gX4_digest_X4_bitsOf rfl rfl rfl hd_X4_bitsOf ⟨Nat.le_of_ble_eq_true rfl, Nat.le_of_ble_eq_true rfl⟩) rfl hl.1 rfl (Nat.le_of_ble_eq_true rfl) dX4_digest_72 ⟨Nat.zero_le _, Nat.zero_le _⟩ ?_
    obtain ⟨v27, hq, hg⟩ := bind_ex hg
    refine callRSl (As := [.long v24, .long v26]) (rest := []) S hK hP (c_X4_mixed l D cI cZ cB cJ v24 v26 v27 hq) [] rfl (va_cwS 2 hts gX4_digest_X4_mixed rfl rfl rfl hd_X4_mixed ⟨Nat.le_of_ble_eq_true rfl, Nat.le_of_ble_eq_true rfl⟩) rfl hl.1 rfl (Nat.le_of_ble_eq_true rfl) dX4_digest_75 ⟨Nat.zero_le _, Nat.zero_le _⟩ ?_
    refine lv_lstore_n (lv' := [(1, .long v27), (0, .ref A_t)]) hx hb dX4_digest_78 rfl hl (by decide) rfl (fun ls hl => ?_)
    refine lv_lload_n hx hb dX4_digest_79 rfl (lv_at hl 0 rfl) ?_
    refine lv_aload_n hx hb dX4_digest_80 rfl (lv_at hl 1 rfl) ?_
    refine xget (ci := 4) (C := RX4) (T := TX4) (N := 8) (v := .ref A_t_text) hx hb hts in_X4_digest_X4 hown hK hP 4 rfl rfl 7 (by decide) wd_X4_digest_3 rfl dX4_digest_81 ?_
    obtain ⟨v28, hq, hg⟩ := bind_ex hg
    refine callRVi (As := []) (rest := [.long v27]) S hK hP (c_X3_size l D cI cZ cB cJ A_t_text A_t_text_codes V_t_text_length V_t_text_armyRead V_t_text_kindRead V_t_text_fromRead V_t_text_toRead v28 hq) [1] rfl (cwV 0 hts gX4_digest_X3_size rfl rfl rfl hd_X3_size ⟨Nat.le_of_ble_eq_true rfl, Nat.le_of_ble_eq_true rfl⟩) rfl rfl rfl hl.1 rfl (Nat.le_of_ble_eq_true rfl) dX4_digest_84 ⟨Nat.zero_le _, Nat.zero_le _⟩ ?_
    refine lv_i2l (v := v28.toInt64) hx hb dX4_digest_87 rfl ?_
    obtain ⟨v29, hq, hg⟩ := bind_ex hg
    refine callRSl (As := [.long v27, .long v28.toInt64]) (rest := []) S hK hP (c_X4_mixed l D cI cZ cB cJ v27 v28.toInt64 v29 hq) [] rfl (va_cwS 2 hts gX4_digest_X4_mixed rfl rfl rfl hd_X4_mixed ⟨Nat.le_of_ble_eq_true rfl, Nat.le_of_ble_eq_true rfl⟩) rfl hl.1 rfl (Nat.le_of_ble_eq_true rfl) dX4_digest_88 ⟨Nat.zero_le _, Nat.zero_le _⟩ ?_
    refine lv_lstore_n (lv' := [(1, .long v29), (0, .ref A_t)]) hx hb dX4_digest_91 rfl hl (by decide) rfl (fun ls hl => ?_)
    refine lv_iconst (v := 0) hx hb dX4_digest_92 (by decide) ?_
    refine lv_istore_n (lv' := [(3, .int 0), (1, .long v29), (0, .ref A_t)]) hx hb dX4_digest_93 rfl hl (by decide) rfl (fun ls hl => ?_)
    obtain ⟨v35, hL, hg⟩ := bind_ex hg
    have kx : ∀ (H : Heap) (locs : List Loc), va_P D vwCl [(A_t_history, .inr (1, [.ref A_t_history_boards, .int V_t_history_oldest, .int V_t_history_saved])), (A_t_text, .inr (3, [.ref A_t_text_codes, .int V_t_text_length, .int V_t_text_armyRead, .int V_t_text_kindRead, .int V_t_text_fromRead, .int V_t_text_toRead])), (A_t_text_codes, .inl (cI, 60, .inl V_t_text_codes)), (A_t_opening_waits, .inl (cI, 9, .inl f11)), (A_t, .inr (4, [.ref A_t_opening, .ref A_t_board, .ref A_t_trialOpening, .ref A_t_trial, .ref A_t_history, .ref A_t_snapshot, .int V_t_hasSnapshot, .ref A_t_text])), (A_t_board, .inr (0, [.ref A_t_board_numbers, .ref A_t_board_owners, .ref A_t_board_cells])), (A_t_board_numbers, .inl (cI, 10, .inl V_t_board_numbers)), (A_t_board_cells, .inl (cI, 63, .inl V_t_board_cells)), (A_t_opening, .inr (2, [.ref A_t_board, .ref A_t_opening_cut, .ref A_t_opening_counts, .ref A_t_opening_strength, .ref A_t_opening_reason, .ref A_t_opening_driver, .ref A_t_opening_waits, .ref A_t_opening_stands])), (A_t_opening_stands, .inl (cI, 9, .inl f12)), (A_t_opening_strength, .inl (cI, 9, .inl f8)), (A_t_opening_reason, .inl (cI, 9, .inl f9)), (A_t_opening_driver, .inl (cI, 9, .inl f10)), (A_t_opening_counts, .inl (cI, 9, .inl f7)), (A_t_opening_cut, .inl (cI, 9, .inl f6)), (A_t_trial, .inr (0, [.ref A_t_trial_numbers, .ref A_t_trial_owners, .ref A_t_trial_cells])), (A_t_trial_numbers, .inl (cI, 10, .inl f13)), (A_t_board_owners, .inl (cI, 12, .inl V_t_board_owners)), (A_t_trial_owners, .inl (cI, 12, .inl f14)), (A_t_trial_cells, .inl (cI, 63, .inl f15)), (A_t_trialOpening, .inr (2, [.ref A_t_trial, .ref A_t_trialOpening_cut, .ref A_t_trialOpening_counts, .ref A_t_trialOpening_strength, .ref A_t_trialOpening_reason, .ref A_t_trialOpening_driver, .ref A_t_trialOpening_waits, .ref A_t_trialOpening_stands])), (A_t_trialOpening_cut, .inl (cI, 9, .inl f16)), (A_t_trialOpening_counts, .inl (cI, 9, .inl f17)), (A_t_trialOpening_strength, .inl (cI, 9, .inl f18)), (A_t_trialOpening_reason, .inl (cI, 9, .inl f19))] H → va_D A [(A_t_history, .inr (1, [.ref A_t_history_boards, .int V_t_history_oldest, .int V_t_history_saved])), (A_t_text, .inr (3, [.ref A_t_text_codes, .int V_t_text_length, .int V_t_text_armyRead, .int V_t_text_kindRead, .int V_t_text_fromRead, .int V_t_text_toRead])), (A_t_text_codes, .inl (cI, 60, .inl V_t_text_codes)), (A_t_opening_waits, .inl (cI, 9, .inl f11)), (A_t, .inr (4, [.ref A_t_opening, .ref A_t_board, .ref A_t_trialOpening, .ref A_t_trial, .ref A_t_history, .ref A_t_snapshot, .int V_t_hasSnapshot, .ref A_t_text])), (A_t_board, .inr (0, [.ref A_t_board_numbers, .ref A_t_board_owners, .ref A_t_board_cells])), (A_t_board_numbers, .inl (cI, 10, .inl V_t_board_numbers)), (A_t_board_cells, .inl (cI, 63, .inl V_t_board_cells)), (A_t_opening, .inr (2, [.ref A_t_board, .ref A_t_opening_cut, .ref A_t_opening_counts, .ref A_t_opening_strength, .ref A_t_opening_reason, .ref A_t_opening_driver, .ref A_t_opening_waits, .ref A_t_opening_stands])), (A_t_opening_stands, .inl (cI, 9, .inl f12)), (A_t_opening_strength, .inl (cI, 9, .inl f8)), (A_t_opening_reason, .inl (cI, 9, .inl f9)), (A_t_opening_driver, .inl (cI, 9, .inl f10)), (A_t_opening_counts, .inl (cI, 9, .inl f7)), (A_t_opening_cut, .inl (cI, 9, .inl f6)), (A_t_trial, .inr (0, [.ref A_t_trial_numbers, .ref A_t_trial_owners, .ref A_t_trial_cells])), (A_t_trial_numbers, .inl (cI, 10, .inl f13)), (A_t_board_owners, .inl (cI, 12, .inl V_t_board_owners)), (A_t_trial_owners, .inl (cI, 12, .inl f14)), (A_t_trial_cells, .inl (cI, 63, .inl f15)), (A_t_trialOpening, .inr (2, [.ref A_t_trial, .ref A_t_trialOpening_cut, .ref A_t_trialOpening_counts, .ref A_t_trialOpening_strength, .ref A_t_trialOpening_reason, .ref A_t_trialOpening_driver, .ref A_t_trialOpening_waits, .ref A_t_trialOpening_stands])), (A_t_trialOpening_cut, .inl (cI, 9, .inl f16)), (A_t_trialOpening_counts, .inl (cI, 9, .inl f17)), (A_t_trialOpening_strength, .inl (cI, 9, .inl f18)), (A_t_trialOpening_reason, .inl (cI, 9, .inl f19))] → va_S A s.heap H locs → ∀ ls : Array Slot, lv_has ls 4 [(1, .long v35)] → W p l e rX4_digest s m args below meth c H locs 0 0 Q (F0 m 125 ls []) := by
      intro H locs hP hD hS ls hl
      refine lv_lload_n hx hb dX4_digest_125 rfl (lv_at hl 0 rfl) ?_
      cases hg
      exact fin _ _ _ _ dX4_digest_126 (hP.sub [4, 0, 5, 6, 7, 8, 14, 13, 10, 11, 12, 3, 9, 15, 16, 17, 18, 19, 20, 21, 22, 23, 24, 1, 2] rfl) (hD.sub [4, 0, 5, 6, 7, 8, 14, 13, 10, 11, 12, 3, 9, 15, 16, 17, 18, 19, 20, 21, 22, 23, 24, 1, 2] (by decide) rfl) hS
    have L : ∀ (nf : Nat) (v30 : Int64) (v31 : Int32), ∀ (H : Heap) (locs : List Loc), va_P D vwCl [(A_t_history, .inr (1, [.ref A_t_history_boards, .int V_t_history_oldest, .int V_t_history_saved])), (A_t_text, .inr (3, [.ref A_t_text_codes, .int V_t_text_length, .int V_t_text_armyRead, .int V_t_text_kindRead, .int V_t_text_fromRead, .int V_t_text_toRead])), (A_t_text_codes, .inl (cI, 60, .inl V_t_text_codes)), (A_t_opening_waits, .inl (cI, 9, .inl f11)), (A_t, .inr (4, [.ref A_t_opening, .ref A_t_board, .ref A_t_trialOpening, .ref A_t_trial, .ref A_t_history, .ref A_t_snapshot, .int V_t_hasSnapshot, .ref A_t_text])), (A_t_board, .inr (0, [.ref A_t_board_numbers, .ref A_t_board_owners, .ref A_t_board_cells])), (A_t_board_numbers, .inl (cI, 10, .inl V_t_board_numbers)), (A_t_board_cells, .inl (cI, 63, .inl V_t_board_cells)), (A_t_opening, .inr (2, [.ref A_t_board, .ref A_t_opening_cut, .ref A_t_opening_counts, .ref A_t_opening_strength, .ref A_t_opening_reason, .ref A_t_opening_driver, .ref A_t_opening_waits, .ref A_t_opening_stands])), (A_t_opening_stands, .inl (cI, 9, .inl f12)), (A_t_opening_strength, .inl (cI, 9, .inl f8)), (A_t_opening_reason, .inl (cI, 9, .inl f9)), (A_t_opening_driver, .inl (cI, 9, .inl f10)), (A_t_opening_counts, .inl (cI, 9, .inl f7)), (A_t_opening_cut, .inl (cI, 9, .inl f6)), (A_t_trial, .inr (0, [.ref A_t_trial_numbers, .ref A_t_trial_owners, .ref A_t_trial_cells])), (A_t_trial_numbers, .inl (cI, 10, .inl f13)), (A_t_board_owners, .inl (cI, 12, .inl V_t_board_owners)), (A_t_trial_owners, .inl (cI, 12, .inl f14)), (A_t_trial_cells, .inl (cI, 63, .inl f15)), (A_t_trialOpening, .inr (2, [.ref A_t_trial, .ref A_t_trialOpening_cut, .ref A_t_trialOpening_counts, .ref A_t_trialOpening_strength, .ref A_t_trialOpening_reason, .ref A_t_trialOpening_driver, .ref A_t_trialOpening_waits, .ref A_t_trialOpening_stands])), (A_t_trialOpening_cut, .inl (cI, 9, .inl f16)), (A_t_trialOpening_counts, .inl (cI, 9, .inl f17)), (A_t_trialOpening_strength, .inl (cI, 9, .inl f18)), (A_t_trialOpening_reason, .inl (cI, 9, .inl f19))] H → va_D A [(A_t_history, .inr (1, [.ref A_t_history_boards, .int V_t_history_oldest, .int V_t_history_saved])), (A_t_text, .inr (3, [.ref A_t_text_codes, .int V_t_text_length, .int V_t_text_armyRead, .int V_t_text_kindRead, .int V_t_text_fromRead, .int V_t_text_toRead])), (A_t_text_codes, .inl (cI, 60, .inl V_t_text_codes)), (A_t_opening_waits, .inl (cI, 9, .inl f11)), (A_t, .inr (4, [.ref A_t_opening, .ref A_t_board, .ref A_t_trialOpening, .ref A_t_trial, .ref A_t_history, .ref A_t_snapshot, .int V_t_hasSnapshot, .ref A_t_text])), (A_t_board, .inr (0, [.ref A_t_board_numbers, .ref A_t_board_owners, .ref A_t_board_cells])), (A_t_board_numbers, .inl (cI, 10, .inl V_t_board_numbers)), (A_t_board_cells, .inl (cI, 63, .inl V_t_board_cells)), (A_t_opening, .inr (2, [.ref A_t_board, .ref A_t_opening_cut, .ref A_t_opening_counts, .ref A_t_opening_strength, .ref A_t_opening_reason, .ref A_t_opening_driver, .ref A_t_opening_waits, .ref A_t_opening_stands])), (A_t_opening_stands, .inl (cI, 9, .inl f12)), (A_t_opening_strength, .inl (cI, 9, .inl f8)), (A_t_opening_reason, .inl (cI, 9, .inl f9)), (A_t_opening_driver, .inl (cI, 9, .inl f10)), (A_t_opening_counts, .inl (cI, 9, .inl f7)), (A_t_opening_cut, .inl (cI, 9, .inl f6)), (A_t_trial, .inr (0, [.ref A_t_trial_numbers, .ref A_t_trial_owners, .ref A_t_trial_cells])), (A_t_trial_numbers, .inl (cI, 10, .inl f13)), (A_t_board_owners, .inl (cI, 12, .inl V_t_board_owners)), (A_t_trial_owners, .inl (cI, 12, .inl f14)), (A_t_trial_cells, .inl (cI, 63, .inl f15)), (A_t_trialOpening, .inr (2, [.ref A_t_trial, .ref A_t_trialOpening_cut, .ref A_t_trialOpening_counts, .ref A_t_trialOpening_strength, .ref A_t_trialOpening_reason, .ref A_t_trialOpening_driver, .ref A_t_trialOpening_waits, .ref A_t_trialOpening_stands])), (A_t_trialOpening_cut, .inl (cI, 9, .inl f16)), (A_t_trialOpening_counts, .inl (cI, 9, .inl f17)), (A_t_trialOpening_strength, .inl (cI, 9, .inl f18)), (A_t_trialOpening_reason, .inl (cI, 9, .inl f19))] → va_S A s.heap H locs → ∀ ls : Array Slot, lv_has ls 4 [(3, .int v31), (1, .long v30), (0, .ref A_t)] → g_X4_digest_L2 V_t_text_length V_t_text_codes nf v30 v31 = some v35 → W p l e rX4_digest s m args below meth c H locs 0 0 Q (F0 m 94 ls []) := by
      intro nf
      induction nf with
      | zero =>
        intro v30 v31 H locs hP hD hS ls hl hg
        exact no_some hg
      | succ nf ih =>
        intro v30 v31 H locs hP hD hS ls hl hg
        rw [g_X4_digest_L2] at hg
        refine lv_iload_n hx hb dX4_digest_94 rfl (lv_at hl 0 rfl) ?_
        refine lv_aload_n hx hb dX4_digest_95 rfl (lv_at hl 2 rfl) ?_
        refine xget (ci := 4) (C := RX4) (T := TX4) (N := 8) (v := .ref A_t_text) hx hb hts in_X4_digest_X4 hown hK hP 4 rfl rfl 7 (by decide) wd_X4_digest_3 rfl dX4_digest_96 ?_
        obtain ⟨v32, hq, hg⟩ := bind_ex hg
        refine callRVi (As := []) (rest := [.int v31]) S hK hP (c_X3_size l D cI cZ cB cJ A_t_text A_t_text_codes V_t_text_length V_t_text_armyRead V_t_text_kindRead V_t_text_fromRead V_t_text_toRead v32 hq) [1] rfl (cwV 0 hts gX4_digest_X3_size rfl rfl rfl hd_X3_size ⟨Nat.le_of_ble_eq_true rfl, Nat.le_of_ble_eq_true rfl⟩) rfl rfl rfl hl.1 rfl (Nat.le_of_ble_eq_true rfl) dX4_digest_99 ⟨Nat.zero_le _, Nat.zero_le _⟩ ?_
        refine lv_icmp_ge (tgt := 125) hx hb dX4_digest_102 (by decide) (fun hc => ?_) (fun hc => ?_)
        · replace hg := if_yes hg hc
          cases hg
          exact kx _ _ hP hD hS _ (lv_sub hl [1] rfl)
        · replace hg := if_no hg hc
          refine lv_lload_n hx hb dX4_digest_105 rfl (lv_at hl 1 rfl) ?_
          refine lv_aload_n hx hb dX4_digest_106 rfl (lv_at hl 2 rfl) ?_
          refine xget (ci := 4) (C := RX4) (T := TX4) (N := 8) (v := .ref A_t_text) hx hb hts in_X4_digest_X4 hown hK hP 4 rfl rfl 7 (by decide) wd_X4_digest_3 rfl dX4_digest_107 ?_
          refine lv_iload_n hx hb dX4_digest_110 rfl (lv_at hl 0 rfl) ?_
          obtain ⟨v33, hq, hg⟩ := bind_ex hg
          refine callRVi (As := [.int v31]) (rest := [.long v30]) S hK hP (c_X3_codeAt l D cI cZ cB cJ A_t_text A_t_text_codes V_t_text_length V_t_text_armyRead V_t_text_kindRead V_t_text_fromRead V_t_text_toRead V_t_text_codes v31 v33 hq) [1, 2] rfl (cwV 1 hts gX4_digest_X3_codeAt rfl rfl rfl hd_X3_codeAt ⟨Nat.le_of_ble_eq_true rfl, Nat.le_of_ble_eq_true rfl⟩) rfl rfl rfl hl.1 rfl (Nat.le_of_ble_eq_true rfl) dX4_digest_111 ⟨Nat.zero_le _, Nat.zero_le _⟩ ?_
          refine lv_i2l (v := v33.toInt64) hx hb dX4_digest_114 rfl ?_
          obtain ⟨v34, hq, hg⟩ := bind_ex hg
          refine callRSl (As := [.long v30, .long v33.toInt64]) (rest := []) S hK hP (c_X4_mixed l D cI cZ cB cJ v30 v33.toInt64 v34 hq) [] rfl (va_cwS 2 hts gX4_digest_X4_mixed rfl rfl rfl hd_X4_mixed ⟨Nat.le_of_ble_eq_true rfl, Nat.le_of_ble_eq_true rfl⟩) rfl hl.1 rfl (Nat.le_of_ble_eq_true rfl) dX4_digest_115 ⟨Nat.zero_le _, Nat.zero_le _⟩ ?_
          refine lv_lstore_n (lv' := [(1, .long v34), (3, .int v31), (0, .ref A_t)]) hx hb dX4_digest_118 rfl hl (by decide) rfl (fun ls hl => ?_)
          refine lv_iinc (v := (v31 + 1)) (lv' := [(3, .int (v31 + 1)), (1, .long v34), (0, .ref A_t)]) hx hb dX4_digest_119 hl (k := 1) rfl rfl (by decide) rfl (fun ls hl => ?_)
          refine lv_goto (tgt := 94) hx hb dX4_digest_122 (by decide) ?_
          exact ih _ _ _ _ hP hD hS _ (lv_sub hl [0, 1, 2] rfl) hg
    exact L FU _ _ _ _ hP hD hS _ (lv_sub hl [0, 1, 2] rfl) hL
  have L : ∀ (nf : Nat) (v1 : Int64) (v2 : Int32), ∀ (H : Heap) (locs : List Loc), va_P D vwCl [(A_t, .inr (4, [.ref A_t_opening, .ref A_t_board, .ref A_t_trialOpening, .ref A_t_trial, .ref A_t_history, .ref A_t_snapshot, .int V_t_hasSnapshot, .ref A_t_text])), (A_t_history, .inr (1, [.ref A_t_history_boards, .int V_t_history_oldest, .int V_t_history_saved])), (A_t_board, .inr (0, [.ref A_t_board_numbers, .ref A_t_board_owners, .ref A_t_board_cells])), (A_t_board_numbers, .inl (cI, 10, .inl V_t_board_numbers)), (A_t_board_cells, .inl (cI, 63, .inl V_t_board_cells)), (A_t_opening, .inr (2, [.ref A_t_board, .ref A_t_opening_cut, .ref A_t_opening_counts, .ref A_t_opening_strength, .ref A_t_opening_reason, .ref A_t_opening_driver, .ref A_t_opening_waits, .ref A_t_opening_stands])), (A_t_opening_cut, .inl (cI, 9, .inl V_t_opening_cut)), (A_t_opening_counts, .inl (cI, 9, .inl V_t_opening_counts)), (A_t_opening_strength, .inl (cI, 9, .inl V_t_opening_strength)), (A_t_opening_reason, .inl (cI, 9, .inl V_t_opening_reason)), (A_t_opening_driver, .inl (cI, 9, .inl V_t_opening_driver)), (A_t_opening_waits, .inl (cI, 9, .inl V_t_opening_waits)), (A_t_opening_stands, .inl (cI, 9, .inl V_t_opening_stands)), (A_t_trial, .inr (0, [.ref A_t_trial_numbers, .ref A_t_trial_owners, .ref A_t_trial_cells])), (A_t_trial_numbers, .inl (cI, 10, .inl V_t_trial_numbers)), (A_t_board_owners, .inl (cI, 12, .inl V_t_board_owners)), (A_t_trial_owners, .inl (cI, 12, .inl V_t_trial_owners)), (A_t_trial_cells, .inl (cI, 63, .inl V_t_trial_cells)), (A_t_trialOpening, .inr (2, [.ref A_t_trial, .ref A_t_trialOpening_cut, .ref A_t_trialOpening_counts, .ref A_t_trialOpening_strength, .ref A_t_trialOpening_reason, .ref A_t_trialOpening_driver, .ref A_t_trialOpening_waits, .ref A_t_trialOpening_stands])), (A_t_trialOpening_cut, .inl (cI, 9, .inl V_t_trialOpening_cut)), (A_t_trialOpening_counts, .inl (cI, 9, .inl V_t_trialOpening_counts)), (A_t_trialOpening_strength, .inl (cI, 9, .inl V_t_trialOpening_strength)), (A_t_trialOpening_reason, .inl (cI, 9, .inl V_t_trialOpening_reason)), (A_t_text, .inr (3, [.ref A_t_text_codes, .int V_t_text_length, .int V_t_text_armyRead, .int V_t_text_kindRead, .int V_t_text_fromRead, .int V_t_text_toRead])), (A_t_text_codes, .inl (cI, 60, .inl V_t_text_codes))] H → va_D A [(A_t, .inr (4, [.ref A_t_opening, .ref A_t_board, .ref A_t_trialOpening, .ref A_t_trial, .ref A_t_history, .ref A_t_snapshot, .int V_t_hasSnapshot, .ref A_t_text])), (A_t_history, .inr (1, [.ref A_t_history_boards, .int V_t_history_oldest, .int V_t_history_saved])), (A_t_board, .inr (0, [.ref A_t_board_numbers, .ref A_t_board_owners, .ref A_t_board_cells])), (A_t_board_numbers, .inl (cI, 10, .inl V_t_board_numbers)), (A_t_board_cells, .inl (cI, 63, .inl V_t_board_cells)), (A_t_opening, .inr (2, [.ref A_t_board, .ref A_t_opening_cut, .ref A_t_opening_counts, .ref A_t_opening_strength, .ref A_t_opening_reason, .ref A_t_opening_driver, .ref A_t_opening_waits, .ref A_t_opening_stands])), (A_t_opening_cut, .inl (cI, 9, .inl V_t_opening_cut)), (A_t_opening_counts, .inl (cI, 9, .inl V_t_opening_counts)), (A_t_opening_strength, .inl (cI, 9, .inl V_t_opening_strength)), (A_t_opening_reason, .inl (cI, 9, .inl V_t_opening_reason)), (A_t_opening_driver, .inl (cI, 9, .inl V_t_opening_driver)), (A_t_opening_waits, .inl (cI, 9, .inl V_t_opening_waits)), (A_t_opening_stands, .inl (cI, 9, .inl V_t_opening_stands)), (A_t_trial, .inr (0, [.ref A_t_trial_numbers, .ref A_t_trial_owners, .ref A_t_trial_cells])), (A_t_trial_numbers, .inl (cI, 10, .inl V_t_trial_numbers)), (A_t_board_owners, .inl (cI, 12, .inl V_t_board_owners)), (A_t_trial_owners, .inl (cI, 12, .inl V_t_trial_owners)), (A_t_trial_cells, .inl (cI, 63, .inl V_t_trial_cells)), (A_t_trialOpening, .inr (2, [.ref A_t_trial, .ref A_t_trialOpening_cut, .ref A_t_trialOpening_counts, .ref A_t_trialOpening_strength, .ref A_t_trialOpening_reason, .ref A_t_trialOpening_driver, .ref A_t_trialOpening_waits, .ref A_t_trialOpening_stands])), (A_t_trialOpening_cut, .inl (cI, 9, .inl V_t_trialOpening_cut)), (A_t_trialOpening_counts, .inl (cI, 9, .inl V_t_trialOpening_counts)), (A_t_trialOpening_strength, .inl (cI, 9, .inl V_t_trialOpening_strength)), (A_t_trialOpening_reason, .inl (cI, 9, .inl V_t_trialOpening_reason)), (A_t_text, .inr (3, [.ref A_t_text_codes, .int V_t_text_length, .int V_t_text_armyRead, .int V_t_text_kindRead, .int V_t_text_fromRead, .int V_t_text_toRead])), (A_t_text_codes, .inl (cI, 60, .inl V_t_text_codes))] → va_S A s.heap H locs → ∀ ls : Array Slot, lv_has ls 4 [(3, .int v2), (1, .long v1), (0, .ref A_t)] → g_X4_digest_L1 V_t_history_saved V_t_board_numbers V_t_board_cells nf v1 v2 = some v5 → W p l e rX4_digest s m args below meth c H locs 0 0 Q (F0 m 6 ls []) := by
    intro nf
    induction nf with
    | zero =>
      intro v1 v2 H locs hP hD hS ls hl hg
      exact no_some hg
    | succ nf ih =>
      intro v1 v2 H locs hP hD hS ls hl hg
      rw [g_X4_digest_L1] at hg
      refine lv_iload_n hx hb dX4_digest_6 rfl (lv_at hl 0 rfl) ?_
      refine lv_bipush (v := 13) hx hb dX4_digest_7 (by decide) ?_
      refine lv_icmp_ge (tgt := 29) hx hb dX4_digest_9 (by decide) (fun hc => ?_) (fun hc => ?_)
      · replace hg := if_yes hg hc
        cases hg
        exact kx _ _ hP hD hS _ (lv_sub hl [1, 2] rfl)
      · replace hg := if_no hg hc
        refine lv_lload_n hx hb dX4_digest_12 rfl (lv_at hl 1 rfl) ?_
        refine lv_aload_n hx hb dX4_digest_13 rfl (lv_at hl 2 rfl) ?_
        refine lv_iload_n hx hb dX4_digest_14 rfl (lv_at hl 0 rfl) ?_
        obtain ⟨v3, hq, hg⟩ := bind_ex hg
        refine callRVi (As := [.int v2]) (rest := [.long v1]) S hK hP (c_X4_countNumber l D cI cZ cB cJ A_t A_t_opening A_t_board A_t_trialOpening A_t_trial A_t_history A_t_snapshot A_t_text A_t_history_boards A_t_board_numbers A_t_board_owners A_t_board_cells V_t_hasSnapshot V_t_history_oldest V_t_history_saved V_t_board_numbers V_t_board_cells v2 v3 hq) [0, 1, 2, 3, 4] rfl (cwV 1 hts gX4_digest_X4_countNumber rfl rfl rfl hd_X4_countNumber ⟨Nat.le_of_ble_eq_true rfl, Nat.le_of_ble_eq_true rfl⟩) rfl rfl rfl hl.1 rfl (Nat.le_of_ble_eq_true rfl) dX4_digest_15 ⟨Nat.zero_le _, Nat.zero_le _⟩ ?_
        refine lv_i2l (v := v3.toInt64) hx hb dX4_digest_18 rfl ?_
        obtain ⟨v4, hq, hg⟩ := bind_ex hg
        refine callRSl (As := [.long v1, .long v3.toInt64]) (rest := []) S hK hP (c_X4_mixed l D cI cZ cB cJ v1 v3.toInt64 v4 hq) [] rfl (va_cwS 2 hts gX4_digest_X4_mixed rfl rfl rfl hd_X4_mixed ⟨Nat.le_of_ble_eq_true rfl, Nat.le_of_ble_eq_true rfl⟩) rfl hl.1 rfl (Nat.le_of_ble_eq_true rfl) dX4_digest_19 ⟨Nat.zero_le _, Nat.zero_le _⟩ ?_
        refine lv_lstore_n (lv' := [(1, .long v4), (3, .int v2), (0, .ref A_t)]) hx hb dX4_digest_22 rfl hl (by decide) rfl (fun ls hl => ?_)
        refine lv_iinc (v := (v2 + 1)) (lv' := [(3, .int (v2 + 1)), (1, .long v4), (0, .ref A_t)]) hx hb dX4_digest_23 hl (k := 1) rfl rfl (by decide) rfl (fun ls hl => ?_)
        refine lv_goto (tgt := 6) hx hb dX4_digest_26 (by decide) ?_
        exact ih _ _ _ _ hP hD hS _ (lv_sub hl [0, 1, 2] rfl) hg
  exact L FU _ _ _ _ hP hD hS _ (lv_sub hl [0, 1, 2] rfl) hL
theorem hd_X5_thrown : yX5_thrown.cls = RX5 ∧ yX5_thrown.cls ≠ "java/lang/invoke/MethodHandle" ∧ yX5_thrown.cls ≠ "java/lang/invoke/VarHandle" ∧ (parseMethodDescriptor yX5_thrown.desc).map (fun d => d.parameters.length) = some 0 := by decide +kernel
theorem in_X5_thrown_X5 : ∀ w ∈ u_ws RX5 TX5 20, w ∈ wsX5_thrown := fun _ h => List.mem_cons_of_mem _ (List.mem_append_right _ h)
theorem wd_X5_thrown_1 : Cond.fieldLink RX5 50 "FogOrdersModel" "thrown" "I" ∈ wsX5_thrown := List.mem_of_getElem? (i := 1) rfl
abbrev rX5_thrown : Room := { frames := 0, cells := 0, slots := 0, locals := 0 }
set_option maxHeartbeats 4000000 in
set_option maxRecDepth 100000 in
theorem c_X5_thrown (l : Launch) (D : va_G) (cI cZ cB cJ : ClassId) (A_t : Nat) (A_t_s : Nat) (A_t_aside : Nat) (A_t_snapshot : Nat) (A_t_saved : Nat) (A_t_text : Nat) (A_t_counts : Nat) (A_t_isCut : Nat) (A_t_strength : Nat) (A_t_fails : Nat) (A_t_why : Nat) (A_t_driver : Nat) (A_t_place : Nat) (A_t_isDone : Nat) (V_t_thrown : Int32) (V_t_isKept : Int32) (V_t_savedMany : Int32) (V_t_length : Int32) (V_t_position : Int32) (V_t_isWrong : Int32) (V_t_digested : Int64) (r0 : Int32) (hg : g_X5_thrown V_t_thrown = some r0) : Met l yX5_thrown wsX5_thrown rX5_thrown (PcR D cI cZ cB cJ [(A_t, .inr (5, [.int V_t_thrown, .ref A_t_s, .ref A_t_aside, .ref A_t_snapshot, .int V_t_isKept, .ref A_t_saved, .int V_t_savedMany, .ref A_t_text, .int V_t_length, .ref A_t_counts, .ref A_t_isCut, .ref A_t_strength, .ref A_t_fails, .ref A_t_why, .ref A_t_driver, .ref A_t_place, .ref A_t_isDone, .int V_t_position, .int V_t_isWrong, .long V_t_digested]))] [.ref A_t]) (vp_Si (fun r' => r' = r0 ∧ True)) 0 0 (fun _ => False) := by
  refine bodyRi (cc := cX5_thrown) (maxL := 1) (lv := [(0, .ref A_t)]) (by decide) rfl (Nat.le_of_ble_eq_true rfl) rfl ?_
  intro p e s m args below meth c Q hx hb hml hown hts hP hK fin ls hl
  replace hown : s.vm.findClass RX5 = some m.cls := hown
  have S : CallFix p m c cX5_thrown 1 s args wsX5_thrown RX5 := ⟨hx, hb, hml, hown, hts⟩
  unfold g_X5_thrown at hg
  refine lv_aload_n hx hb dX5_thrown_0 rfl (lv_at hl 0 rfl) ?_
  refine xget (ci := 5) (C := RX5) (T := TX5) (N := 20) (v := .int V_t_thrown) hx hb hts in_X5_thrown_X5 hown hK hP 0 rfl rfl 0 (by decide) wd_X5_thrown_1 rfl dX5_thrown_1 ?_
  cases hg
  exact fin _ _ dX5_thrown_4
theorem hd_X5_in : yX5_in.cls ≠ "java/lang/invoke/MethodHandle" ∧ yX5_in.cls ≠ "java/lang/invoke/VarHandle" ∧ (parseMethodDescriptor yX5_in.desc).map (fun d => d.parameters.length) = some 3 := by decide +kernel
abbrev rX5_in : Room := { frames := 0, cells := 0, slots := 0, locals := 0 }
set_option maxHeartbeats 4000000 in
set_option maxRecDepth 100000 in
theorem c_X5_in (l : Launch) (D : va_G) (cI cZ cB cJ : ClassId) (x1 : Int32) (x2 : Int32) (x3 : Int32) (r0 : Int32) (hg : g_X5_in x1 x2 x3 = some r0) : Met l yX5_in wsX5_in rX5_in (PcR D cI cZ cB cJ [] [.int x1, .int x2, .int x3]) (vp_Si (fun r' => r' = r0 ∧ bo r0)) 0 0 (fun _ => False) := by
  refine bodyRz (cc := cX5_in) (maxL := 3) (lv := [(0, .int x1), (1, .int x2), (2, .int x3)]) (by decide) rfl (Nat.le_of_ble_eq_true rfl) rfl ?_
  intro p e s m args below meth c Q hx hb hml hown hts hP hK fin ls hl
  replace hown : s.vm.findClass RX5 = some m.cls := hown
  have S : CallFix p m c cX5_in 3 s args wsX5_in RX5 := ⟨hx, hb, hml, hown, hts⟩
  unfold g_X5_in at hg
  refine lv_iload_n hx hb dX5_in_0 rfl (lv_at hl 0 rfl) ?_
  refine lv_iload_n hx hb dX5_in_1 rfl (lv_at hl 1 rfl) ?_
  refine lv_icmp_lt (tgt := 14) hx hb dX5_in_2 (by decide) (fun hc => ?_) (fun hc => ?_)
  · replace hg := if_yes hg hc
    refine lv_iconst (v := 0) hx hb dX5_in_14 (by decide) ?_
    cases hg
    exact fin _ _ bo_0 dX5_in_15
  · replace hg := if_no hg hc
    refine lv_iload_n hx hb dX5_in_5 rfl (lv_at hl 0 rfl) ?_
    refine lv_iload_n hx hb dX5_in_6 rfl (lv_at hl 2 rfl) ?_
    refine lv_icmp_gt (tgt := 14) hx hb dX5_in_7 (by decide) (fun hc => ?_) (fun hc => ?_)
    · replace hg := if_yes hg hc
      refine lv_iconst (v := 0) hx hb dX5_in_14 (by decide) ?_
      cases hg
      exact fin _ _ bo_0 dX5_in_15
    · replace hg := if_no hg hc
      refine lv_iconst (v := 1) hx hb dX5_in_10 (by decide) ?_
      refine lv_goto (tgt := 15) hx hb dX5_in_11 (by decide) ?_
      cases hg
      exact fin _ _ bo_1 dX5_in_15
theorem hd_X5_holds : yX5_holds.cls = RX5 ∧ yX5_holds.cls ≠ "java/lang/invoke/MethodHandle" ∧ yX5_holds.cls ≠ "java/lang/invoke/VarHandle" ∧ (parseMethodDescriptor yX5_holds.desc).map (fun d => d.parameters.length) = some 1 := by decide +kernel
theorem in_X5_holds_X5 : ∀ w ∈ u_ws RX5 TX5 20, w ∈ wsX5_holds := fun _ h => List.mem_cons_of_mem _ (List.mem_append_right _ h)
theorem wd_X5_holds_1 : Cond.fieldLink RX5 50 "FogOrdersModel" "thrown" "I" ∈ wsX5_holds := List.mem_of_getElem? (i := 1) rfl
abbrev rX5_holds : Room := { frames := 0, cells := 0, slots := 0, locals := 0 }
set_option maxHeartbeats 4000000 in
set_option maxRecDepth 100000 in
theorem c_X5_holds (l : Launch) (D : va_G) (cI cZ cB cJ : ClassId) (A_t : Nat) (A_t_s : Nat) (A_t_aside : Nat) (A_t_snapshot : Nat) (A_t_saved : Nat) (A_t_text : Nat) (A_t_counts : Nat) (A_t_isCut : Nat) (A_t_strength : Nat) (A_t_fails : Nat) (A_t_why : Nat) (A_t_driver : Nat) (A_t_place : Nat) (A_t_isDone : Nat) (sz : Nat) (V_t_thrown : Int32) (V_t_isKept : Int32) (V_t_savedMany : Int32) (V_t_length : Int32) (V_t_position : Int32) (V_t_isWrong : Int32) (V_t_digested : Int64) (x1 : Int32) (r0 : Int32) (w1 : Int32) (hg : g_X5_holds V_t_thrown x1 = some (r0, w1)) : Met l yX5_holds wsX5_holds rX5_holds (PcW D cI cZ cB cJ sz [(A_t, .inr (5, [.int V_t_thrown, .ref A_t_s, .ref A_t_aside, .ref A_t_snapshot, .int V_t_isKept, .ref A_t_saved, .int V_t_savedMany, .ref A_t_text, .int V_t_length, .ref A_t_counts, .ref A_t_isCut, .ref A_t_strength, .ref A_t_fails, .ref A_t_why, .ref A_t_driver, .ref A_t_place, .ref A_t_isDone, .int V_t_position, .int V_t_isWrong, .long V_t_digested]))] [.ref A_t, .int x1]) (QWz D cI cZ cB cJ sz [(A_t, .inr (5, [.int V_t_thrown, .ref A_t_s, .ref A_t_aside, .ref A_t_snapshot, .int V_t_isKept, .ref A_t_saved, .int V_t_savedMany, .ref A_t_text, .int V_t_length, .ref A_t_counts, .ref A_t_isCut, .ref A_t_strength, .ref A_t_fails, .ref A_t_why, .ref A_t_driver, .ref A_t_place, .ref A_t_isDone, .int V_t_position, .int V_t_isWrong, .long V_t_digested]))] [(A_t, .inr (5, [.int w1, .ref A_t_s, .ref A_t_aside, .ref A_t_snapshot, .int V_t_isKept, .ref A_t_saved, .int V_t_savedMany, .ref A_t_text, .int V_t_length, .ref A_t_counts, .ref A_t_isCut, .ref A_t_strength, .ref A_t_fails, .ref A_t_why, .ref A_t_driver, .ref A_t_place, .ref A_t_isDone, .int V_t_position, .int V_t_isWrong, .long V_t_digested]))] r0) 0 0 (va_A [(A_t, .inr (5, [.int V_t_thrown, .ref A_t_s, .ref A_t_aside, .ref A_t_snapshot, .int V_t_isKept, .ref A_t_saved, .int V_t_savedMany, .ref A_t_text, .int V_t_length, .ref A_t_counts, .ref A_t_isCut, .ref A_t_strength, .ref A_t_fails, .ref A_t_why, .ref A_t_driver, .ref A_t_place, .ref A_t_isDone, .int V_t_position, .int V_t_isWrong, .long V_t_digested]))] sz) := by
  refine bodyWz (cc := cX5_holds) (maxL := 2) (lv := [(0, .ref A_t), (1, .int x1)]) (by decide) rfl (Nat.le_of_ble_eq_true rfl) rfl ?_
  intro p e s m args below meth c Q hx hb hml hown hts A hP hK hD hA hS fin ls hl
  replace hown : s.vm.findClass RX5 = some m.cls := hown
  have S : CallFix p m c cX5_holds 2 s args wsX5_holds RX5 := ⟨hx, hb, hml, hown, hts⟩
  unfold g_X5_holds at hg
  refine lv_aload_n hx hb dX5_holds_0 rfl (lv_at hl 0 rfl) ?_
  refine lv_iload_n hx hb dX5_holds_1 rfl (lv_at hl 1 rfl) ?_
  refine xput (ci := 5) (C := RX5) (T := TX5) (N := 20) (ty := .int) (v := .int x1) (ws2 := [(A_t, .inr (5, [.int x1, .ref A_t_s, .ref A_t_aside, .ref A_t_snapshot, .int V_t_isKept, .ref A_t_saved, .int V_t_savedMany, .ref A_t_text, .int V_t_length, .ref A_t_counts, .ref A_t_isCut, .ref A_t_strength, .ref A_t_fails, .ref A_t_why, .ref A_t_driver, .ref A_t_place, .ref A_t_isDone, .int V_t_position, .int V_t_isWrong, .long V_t_digested]))]) hx hb hts in_X5_holds_X5 tyX5 tyX5_ok nmX5 hown hK hP hD hS 0 rfl rfl 0 (by decide) wd_X5_holds_1 rfl (by decide +kernel) rfl rfl (Nat.le_of_ble_eq_true rfl) rfl dX5_holds_2 (fun H locs hP hD hS => ?_)
  refine lv_iload_n hx hb dX5_holds_5 rfl (lv_at hl 1 rfl) ?_
  refine lv_if_ne (tgt := 13) hx hb dX5_holds_6 (by decide) (fun hc => ?_) (fun hc => ?_)
  · replace hg := if_no hg hc
    refine lv_iconst (v := 0) hx hb dX5_holds_13 (by decide) ?_
    cases hg
    exact fin _ _ _ _ bo_0 dX5_holds_14 hP hD hS
  · replace hg := if_yes hg hc
    refine lv_iconst (v := 1) hx hb dX5_holds_9 (by decide) ?_
    refine lv_goto (tgt := 14) hx hb dX5_holds_10 (by decide) ?_
    cases hg
    exact fin _ _ _ _ bo_1 dX5_holds_14 hP hD hS
theorem hd_X5_isSeat : yX5_isSeat.cls ≠ "java/lang/invoke/MethodHandle" ∧ yX5_isSeat.cls ≠ "java/lang/invoke/VarHandle" ∧ (parseMethodDescriptor yX5_isSeat.desc).map (fun d => d.parameters.length) = some 1 := by decide +kernel
abbrev rX5_isSeat : Room := { frames := 1, cells := 0, slots := 0, locals := 22 }
set_option maxHeartbeats 4000000 in
set_option maxRecDepth 100000 in
theorem c_X5_isSeat (l : Launch) (D : va_G) (cI cZ cB cJ : ClassId) (x1 : Int32) (r0 : Int32) (hg : g_X5_isSeat x1 = some r0) : Met l yX5_isSeat wsX5_isSeat rX5_isSeat (PcR D cI cZ cB cJ [] [.int x1]) (vp_Si (fun r' => r' = r0 ∧ bo r0)) 0 0 (fun _ => False) := by
  refine bodyRz (cc := cX5_isSeat) (maxL := 1) (lv := [(0, .int x1)]) (by decide) rfl (Nat.le_of_ble_eq_true rfl) rfl ?_
  intro p e s m args below meth c Q hx hb hml hown hts hP hK fin ls hl
  replace hown : s.vm.findClass RX5 = some m.cls := hown
  have S : CallFix p m c cX5_isSeat 1 s args wsX5_isSeat RX5 := ⟨hx, hb, hml, hown, hts⟩
  unfold g_X5_isSeat at hg
  refine lv_iload_n hx hb dX5_isSeat_0 rfl (lv_at hl 0 rfl) ?_
  refine lv_iconst (v := 0) hx hb dX5_isSeat_1 (by decide) ?_
  refine lv_iconst (v := 2) hx hb dX5_isSeat_2 (by decide) ?_
  obtain ⟨v1, hq, hg⟩ := bind_ex hg
  refine callRSz (As := [.int x1, .int 0, .int 2]) (rest := []) S hK hP (c_X5_in l D cI cZ cB cJ x1 0 2 v1 hq) [] rfl (va_cwS 3 hts gX5_isSeat_X5_in rfl rfl rfl hd_X5_in ⟨Nat.le_of_ble_eq_true rfl, Nat.le_of_ble_eq_true rfl⟩) rfl hl.1 rfl (Nat.le_of_ble_eq_true rfl) dX5_isSeat_3 ⟨Nat.zero_le _, Nat.zero_le _⟩ (fun hz_v1 => ?_)
  cases hg
  exact fin _ _ hz_v1 dX5_isSeat_6
theorem hd_X5_isField : yX5_isField.cls ≠ "java/lang/invoke/MethodHandle" ∧ yX5_isField.cls ≠ "java/lang/invoke/VarHandle" ∧ (parseMethodDescriptor yX5_isField.desc).map (fun d => d.parameters.length) = some 1 := by decide +kernel
abbrev rX5_isField : Room := { frames := 1, cells := 0, slots := 0, locals := 22 }
set_option maxHeartbeats 4000000 in
set_option maxRecDepth 100000 in
theorem c_X5_isField (l : Launch) (D : va_G) (cI cZ cB cJ : ClassId) (x1 : Int32) (r0 : Int32) (hg : g_X5_isField x1 = some r0) : Met l yX5_isField wsX5_isField rX5_isField (PcR D cI cZ cB cJ [] [.int x1]) (vp_Si (fun r' => r' = r0 ∧ bo r0)) 0 0 (fun _ => False) := by
  refine bodyRz (cc := cX5_isField) (maxL := 1) (lv := [(0, .int x1)]) (by decide) rfl (Nat.le_of_ble_eq_true rfl) rfl ?_
  intro p e s m args below meth c Q hx hb hml hown hts hP hK fin ls hl
  replace hown : s.vm.findClass RX5 = some m.cls := hown
  have S : CallFix p m c cX5_isField 1 s args wsX5_isField RX5 := ⟨hx, hb, hml, hown, hts⟩
  unfold g_X5_isField at hg
  refine lv_iload_n hx hb dX5_isField_0 rfl (lv_at hl 0 rfl) ?_
  refine lv_iconst (v := 0) hx hb dX5_isField_1 (by decide) ?_
  refine lv_bipush (v := 11) hx hb dX5_isField_2 (by decide) ?_
  obtain ⟨v1, hq, hg⟩ := bind_ex hg
  refine callRSz (As := [.int x1, .int 0, .int 11]) (rest := []) S hK hP (c_X5_in l D cI cZ cB cJ x1 0 11 v1 hq) [] rfl (va_cwS 3 hts gX5_isField_X5_in rfl rfl rfl hd_X5_in ⟨Nat.le_of_ble_eq_true rfl, Nat.le_of_ble_eq_true rfl⟩) rfl hl.1 rfl (Nat.le_of_ble_eq_true rfl) dX5_isField_4 ⟨Nat.zero_le _, Nat.zero_le _⟩ (fun hz_v1 => ?_)
  cases hg
  exact fin _ _ hz_v1 dX5_isField_7
theorem hd_X5_isArmy : yX5_isArmy.cls = RX5 ∧ yX5_isArmy.cls ≠ "java/lang/invoke/MethodHandle" ∧ yX5_isArmy.cls ≠ "java/lang/invoke/VarHandle" ∧ (parseMethodDescriptor yX5_isArmy.desc).map (fun d => d.parameters.length) = some 1 := by decide +kernel
theorem in_X5_isArmy_X5 : ∀ w ∈ u_ws RX5 TX5 20, w ∈ wsX5_isArmy := fun _ h => List.mem_cons_of_mem _ (List.mem_append_right _ h)
theorem wd_X5_isArmy_1 : Cond.fieldLink RX5 7 "FogOrdersModel" "s" "[I" ∈ wsX5_isArmy := List.mem_of_getElem? (i := 1) rfl
abbrev rX5_isArmy : Room := { frames := 1, cells := 0, slots := 0, locals := 22 }
set_option maxHeartbeats 4000000 in
set_option maxRecDepth 100000 in
theorem c_X5_isArmy (l : Launch) (D : va_G) (cI cZ cB cJ : ClassId) (A_t : Nat) (A_t_s : Nat) (A_t_aside : Nat) (A_t_snapshot : Nat) (A_t_saved : Nat) (A_t_text : Nat) (A_t_counts : Nat) (A_t_isCut : Nat) (A_t_strength : Nat) (A_t_fails : Nat) (A_t_why : Nat) (A_t_driver : Nat) (A_t_place : Nat) (A_t_isDone : Nat) (V_t_thrown : Int32) (V_t_isKept : Int32) (V_t_savedMany : Int32) (V_t_length : Int32) (V_t_position : Int32) (V_t_isWrong : Int32) (V_t_digested : Int64) (V_t_s : Nat → Int32) (x1 : Int32) (r0 : Int32) (hg : g_X5_isArmy V_t_s x1 = some r0) : Met l yX5_isArmy wsX5_isArmy rX5_isArmy (PcR D cI cZ cB cJ [(A_t, .inr (5, [.int V_t_thrown, .ref A_t_s, .ref A_t_aside, .ref A_t_snapshot, .int V_t_isKept, .ref A_t_saved, .int V_t_savedMany, .ref A_t_text, .int V_t_length, .ref A_t_counts, .ref A_t_isCut, .ref A_t_strength, .ref A_t_fails, .ref A_t_why, .ref A_t_driver, .ref A_t_place, .ref A_t_isDone, .int V_t_position, .int V_t_isWrong, .long V_t_digested])), (A_t_s, .inl (cI, 77, .inl V_t_s))] [.ref A_t, .int x1]) (vp_Si (fun r' => r' = r0 ∧ bo r0)) 0 0 (fun _ => False) := by
  refine bodyRz (cc := cX5_isArmy) (maxL := 2) (lv := [(0, .ref A_t), (1, .int x1)]) (by decide) rfl (Nat.le_of_ble_eq_true rfl) rfl ?_
  intro p e s m args below meth c Q hx hb hml hown hts hP hK fin ls hl
  replace hown : s.vm.findClass RX5 = some m.cls := hown
  have S : CallFix p m c cX5_isArmy 2 s args wsX5_isArmy RX5 := ⟨hx, hb, hml, hown, hts⟩
  unfold g_X5_isArmy at hg
  refine lv_iload_n hx hb dX5_isArmy_0 rfl (lv_at hl 1 rfl) ?_
  refine lv_iconst (v := 0) hx hb dX5_isArmy_1 (by decide) ?_
  refine lv_aload_n hx hb dX5_isArmy_2 rfl (lv_at hl 0 rfl) ?_
  refine xget (ci := 5) (C := RX5) (T := TX5) (N := 20) (v := .ref A_t_s) hx hb hts in_X5_isArmy_X5 hown hK hP 0 rfl rfl 1 (by decide) wd_X5_isArmy_1 rfl dX5_isArmy_3 ?_
  refine lv_bipush (v := 9) hx hb dX5_isArmy_6 (by decide) ?_
  obtain ⟨v1, hin, hv, hg⟩ := rdA_ex hg
  refine xiald hx hb hK hP 1 rfl hin hv dX5_isArmy_8 ?_
  refine lv_iconst (v := 1) hx hb dX5_isArmy_9 (by decide) ?_
  refine lv_isub hx hb dX5_isArmy_10 ?_
  obtain ⟨v2, hq, hg⟩ := bind_ex hg
  refine callRSz (As := [.int x1, .int 0, .int (v1 - 1)]) (rest := []) S hK hP (c_X5_in l D cI cZ cB cJ x1 0 (v1 - 1) v2 hq) [] rfl (va_cwS 3 hts gX5_isArmy_X5_in rfl rfl rfl hd_X5_in ⟨Nat.le_of_ble_eq_true rfl, Nat.le_of_ble_eq_true rfl⟩) rfl hl.1 rfl (Nat.le_of_ble_eq_true rfl) dX5_isArmy_11 ⟨Nat.zero_le _, Nat.zero_le _⟩ (fun hz_v2 => ?_)
  cases hg
  exact fin _ _ hz_v2 dX5_isArmy_14
theorem hd_X5_at : yX5_at.cls ≠ "java/lang/invoke/MethodHandle" ∧ yX5_at.cls ≠ "java/lang/invoke/VarHandle" ∧ (parseMethodDescriptor yX5_at.desc).map (fun d => d.parameters.length) = some 2 := by decide +kernel
abbrev rX5_at : Room := { frames := 0, cells := 0, slots := 0, locals := 0 }
set_option maxHeartbeats 4000000 in
set_option maxRecDepth 100000 in
theorem c_X5_at (l : Launch) (D : va_G) (cI cZ cB cJ : ClassId) (x1 : Int32) (x2 : Int32) (r0 : Int32) (hg : g_X5_at x1 x2 = some r0) : Met l yX5_at wsX5_at rX5_at (PcR D cI cZ cB cJ [] [.int x1, .int x2]) (vp_Si (fun r' => r' = r0 ∧ True)) 0 0 (fun _ => False) := by
  refine bodyRi (cc := cX5_at) (maxL := 2) (lv := [(0, .int x1), (1, .int x2)]) (by decide) rfl (Nat.le_of_ble_eq_true rfl) rfl ?_
  intro p e s m args below meth c Q hx hb hml hown hts hP hK fin ls hl
  replace hown : s.vm.findClass RX5 = some m.cls := hown
  have S : CallFix p m c cX5_at 2 s args wsX5_at RX5 := ⟨hx, hb, hml, hown, hts⟩
  unfold g_X5_at at hg
  refine lv_bipush (v := 14) hx hb dX5_at_0 (by decide) ?_
  refine lv_bipush (v := 7) hx hb dX5_at_2 (by decide) ?_
  refine lv_iload_n hx hb dX5_at_4 rfl (lv_at hl 0 rfl) ?_
  refine lv_imul hx hb dX5_at_5 ?_
  refine lv_iadd hx hb dX5_at_6 ?_
  refine lv_iload_n hx hb dX5_at_7 rfl (lv_at hl 1 rfl) ?_
  refine lv_iadd hx hb dX5_at_8 ?_
  cases hg
  exact fin _ _ dX5_at_9
theorem hd_X5_of : yX5_of.cls = RX5 ∧ yX5_of.cls ≠ "java/lang/invoke/MethodHandle" ∧ yX5_of.cls ≠ "java/lang/invoke/VarHandle" ∧ (parseMethodDescriptor yX5_of.desc).map (fun d => d.parameters.length) = some 2 := by decide +kernel
theorem in_X5_of_X5 : ∀ w ∈ u_ws RX5 TX5 20, w ∈ wsX5_of := fun _ h => List.mem_cons_of_mem _ (List.mem_append_right _ h)
theorem wd_X5_of_1 : Cond.fieldLink RX5 7 "FogOrdersModel" "s" "[I" ∈ wsX5_of := List.mem_of_getElem? (i := 1) rfl
abbrev rX5_of : Room := { frames := 1, cells := 0, slots := 0, locals := 21 }
set_option maxHeartbeats 4000000 in
set_option maxRecDepth 100000 in
theorem c_X5_of (l : Launch) (D : va_G) (cI cZ cB cJ : ClassId) (A_t : Nat) (A_t_s : Nat) (A_t_aside : Nat) (A_t_snapshot : Nat) (A_t_saved : Nat) (A_t_text : Nat) (A_t_counts : Nat) (A_t_isCut : Nat) (A_t_strength : Nat) (A_t_fails : Nat) (A_t_why : Nat) (A_t_driver : Nat) (A_t_place : Nat) (A_t_isDone : Nat) (V_t_thrown : Int32) (V_t_isKept : Int32) (V_t_savedMany : Int32) (V_t_length : Int32) (V_t_position : Int32) (V_t_isWrong : Int32) (V_t_digested : Int64) (V_t_s : Nat → Int32) (x1 : Int32) (x2 : Int32) (r0 : Int32) (hg : g_X5_of V_t_s x1 x2 = some r0) : Met l yX5_of wsX5_of rX5_of (PcR D cI cZ cB cJ [(A_t, .inr (5, [.int V_t_thrown, .ref A_t_s, .ref A_t_aside, .ref A_t_snapshot, .int V_t_isKept, .ref A_t_saved, .int V_t_savedMany, .ref A_t_text, .int V_t_length, .ref A_t_counts, .ref A_t_isCut, .ref A_t_strength, .ref A_t_fails, .ref A_t_why, .ref A_t_driver, .ref A_t_place, .ref A_t_isDone, .int V_t_position, .int V_t_isWrong, .long V_t_digested])), (A_t_s, .inl (cI, 77, .inl V_t_s))] [.ref A_t, .int x1, .int x2]) (vp_Si (fun r' => r' = r0 ∧ True)) 0 0 (fun _ => False) := by
  refine bodyRi (cc := cX5_of) (maxL := 3) (lv := [(0, .ref A_t), (1, .int x1), (2, .int x2)]) (by decide) rfl (Nat.le_of_ble_eq_true rfl) rfl ?_
  intro p e s m args below meth c Q hx hb hml hown hts hP hK fin ls hl
  replace hown : s.vm.findClass RX5 = some m.cls := hown
  have S : CallFix p m c cX5_of 3 s args wsX5_of RX5 := ⟨hx, hb, hml, hown, hts⟩
  unfold g_X5_of at hg
  refine lv_aload_n hx hb dX5_of_0 rfl (lv_at hl 0 rfl) ?_
  refine xget (ci := 5) (C := RX5) (T := TX5) (N := 20) (v := .ref A_t_s) hx hb hts in_X5_of_X5 hown hK hP 0 rfl rfl 1 (by decide) wd_X5_of_1 rfl dX5_of_1 ?_
  refine lv_iload_n hx hb dX5_of_4 rfl (lv_at hl 1 rfl) ?_
  refine lv_iload_n hx hb dX5_of_5 rfl (lv_at hl 2 rfl) ?_
  obtain ⟨v1, hq, hg⟩ := bind_ex hg
  refine callRSi (As := [.int x1, .int x2]) (rest := [.ref A_t_s]) S hK hP (c_X5_at l D cI cZ cB cJ x1 x2 v1 hq) [] rfl (va_cwS 2 hts gX5_of_X5_at rfl rfl rfl hd_X5_at ⟨Nat.le_of_ble_eq_true rfl, Nat.le_of_ble_eq_true rfl⟩) rfl hl.1 rfl (Nat.le_of_ble_eq_true rfl) dX5_of_6 ⟨Nat.zero_le _, Nat.zero_le _⟩ ?_
  obtain ⟨v2, hin, hv, hg⟩ := rdA_ex hg
  refine xiald hx hb hK hP 1 rfl hin hv dX5_of_9 ?_
  cases hg
  exact fin _ _ dX5_of_10
theorem hd_X5_areNeighbours : yX5_areNeighbours.cls ≠ "java/lang/invoke/MethodHandle" ∧ yX5_areNeighbours.cls ≠ "java/lang/invoke/VarHandle" ∧ (parseMethodDescriptor yX5_areNeighbours.desc).map (fun d => d.parameters.length) = some 2 := by decide +kernel
abbrev rX5_areNeighbours : Room := { frames := 0, cells := 0, slots := 0, locals := 0 }
set_option maxHeartbeats 4000000 in
set_option maxRecDepth 100000 in
theorem c_X5_areNeighbours (l : Launch) (D : va_G) (cI cZ cB cJ : ClassId) (x1 : Int32) (x2 : Int32) (r0 : Int32) (hg : g_X5_areNeighbours x1 x2 = some r0) : Met l yX5_areNeighbours wsX5_areNeighbours rX5_areNeighbours (PcR D cI cZ cB cJ [] [.int x1, .int x2]) (vp_Si (fun r' => r' = r0 ∧ bo r0)) 0 0 (fun _ => False) := by
  refine bodyRz (cc := cX5_areNeighbours) (maxL := 3) (lv := [(0, .int x1), (1, .int x2)]) (by decide) rfl (Nat.le_of_ble_eq_true rfl) rfl ?_
  intro p e s m args below meth c Q hx hb hml hown hts hP hK fin ls hl
  replace hown : s.vm.findClass RX5 = some m.cls := hown
  have S : CallFix p m c cX5_areNeighbours 3 s args wsX5_areNeighbours RX5 := ⟨hx, hb, hml, hown, hts⟩
  unfold g_X5_areNeighbours at hg
  refine lv_iload_n hx hb dX5_areNeighbours_0 rfl (lv_at hl 0 rfl) ?_
  refine lv_iload_n hx hb dX5_areNeighbours_1 rfl (lv_at hl 1 rfl) ?_
  have hJ1 : ∀ (v1 : Int32), ∀ ls : Array Slot, lv_has ls 3 [] → g_X5_areNeighbours_J1 v1 = some r0 → W p l e rX5_areNeighbours s m args below meth c s.heap [] 0 0 Q (F0 m 14 ls [.int v1]) := by
    intro v1 ls hl hg
    unfold g_X5_areNeighbours_J1 at hg
    refine lv_istore_n (lv' := [(2, .int v1)]) hx hb dX5_areNeighbours_14 rfl hl (by decide) rfl (fun ls hl => ?_)
    refine lv_iload_n hx hb dX5_areNeighbours_15 rfl (lv_at hl 0 rfl) ?_
    refine lv_iconst (v := 1) hx hb dX5_areNeighbours_16 (by decide) ?_
    refine lv_icmp_eq (tgt := 37) hx hb dX5_areNeighbours_17 (by decide) (fun hc => ?_) (fun hc => ?_)
    · replace hg := if_yes hg hc
      refine lv_iconst (v := 1) hx hb dX5_areNeighbours_37 (by decide) ?_
      refine lv_goto (tgt := 42) hx hb dX5_areNeighbours_38 (by decide) ?_
      cases hg
      exact fin _ _ bo_1 dX5_areNeighbours_42
    · replace hg := if_no hg hc
      refine lv_iload_n hx hb dX5_areNeighbours_20 rfl (lv_at hl 0 rfl) ?_
      refine lv_iconst (v := 4) hx hb dX5_areNeighbours_21 (by decide) ?_
      refine lv_icmp_eq (tgt := 37) hx hb dX5_areNeighbours_22 (by decide) (fun hc => ?_) (fun hc => ?_)
      · replace hg := if_yes hg hc
        refine lv_iconst (v := 1) hx hb dX5_areNeighbours_37 (by decide) ?_
        refine lv_goto (tgt := 42) hx hb dX5_areNeighbours_38 (by decide) ?_
        cases hg
        exact fin _ _ bo_1 dX5_areNeighbours_42
      · replace hg := if_no hg hc
        refine lv_iload_n hx hb dX5_areNeighbours_25 rfl (lv_at hl 0 rfl) ?_
        refine lv_bipush (v := 8) hx hb dX5_areNeighbours_26 (by decide) ?_
        refine lv_icmp_eq (tgt := 37) hx hb dX5_areNeighbours_28 (by decide) (fun hc => ?_) (fun hc => ?_)
        · replace hg := if_yes hg hc
          refine lv_iconst (v := 1) hx hb dX5_areNeighbours_37 (by decide) ?_
          refine lv_goto (tgt := 42) hx hb dX5_areNeighbours_38 (by decide) ?_
          cases hg
          exact fin _ _ bo_1 dX5_areNeighbours_42
        · replace hg := if_no hg hc
          refine lv_iload_n hx hb dX5_areNeighbours_31 rfl (lv_at hl 0 rfl) ?_
          refine lv_bipush (v := 11) hx hb dX5_areNeighbours_32 (by decide) ?_
          refine lv_icmp_ne (tgt := 41) hx hb dX5_areNeighbours_34 (by decide) (fun hc => ?_) (fun hc => ?_)
          · replace hg := if_no hg hc
            refine lv_iconst (v := 0) hx hb dX5_areNeighbours_41 (by decide) ?_
            cases hg
            exact fin _ _ bo_0 dX5_areNeighbours_42
          · replace hg := if_yes hg hc
            refine lv_iconst (v := 1) hx hb dX5_areNeighbours_37 (by decide) ?_
            refine lv_goto (tgt := 42) hx hb dX5_areNeighbours_38 (by decide) ?_
            cases hg
            exact fin _ _ bo_1 dX5_areNeighbours_42
  refine lv_icmp_le (tgt := 11) hx hb dX5_areNeighbours_2 (by decide) (fun hc => ?_) (fun hc => ?_)
  · replace hg := if_yes hg hc
    refine lv_iload_n hx hb dX5_areNeighbours_11 rfl (lv_at hl 1 rfl) ?_
    refine lv_iload_n hx hb dX5_areNeighbours_12 rfl (lv_at hl 0 rfl) ?_
    refine lv_isub hx hb dX5_areNeighbours_13 ?_
    exact hJ1 _ _ (lv_sub hl [] rfl) hg
  · replace hg := if_no hg hc
    refine lv_iload_n hx hb dX5_areNeighbours_5 rfl (lv_at hl 0 rfl) ?_
    refine lv_iload_n hx hb dX5_areNeighbours_6 rfl (lv_at hl 1 rfl) ?_
    refine lv_isub hx hb dX5_areNeighbours_7 ?_
    refine lv_goto (tgt := 14) hx hb dX5_areNeighbours_8 (by decide) ?_
    exact hJ1 _ _ (lv_sub hl [] rfl) hg
theorem hd_X5_save : yX5_save.cls = RX5 ∧ yX5_save.cls ≠ "java/lang/invoke/MethodHandle" ∧ yX5_save.cls ≠ "java/lang/invoke/VarHandle" ∧ (parseMethodDescriptor yX5_save.desc).map (fun d => d.parameters.length) = some 0 := by decide +kernel
theorem in_X5_save_X5 : ∀ w ∈ u_ws RX5 TX5 20, w ∈ wsX5_save := fun _ h => List.mem_cons_of_mem _ (List.mem_append_right _ h)
theorem wd_X5_save_1 : Cond.fieldLink RX5 62 "FogOrdersModel" "savedMany" "I" ∈ wsX5_save := List.mem_of_getElem? (i := 1) rfl
theorem wd_X5_save_2 : Cond.fieldLink RX5 19 "FogOrdersModel" "saved" "[I" ∈ wsX5_save := List.mem_of_getElem? (i := 2) rfl
theorem wd_X5_save_3 : Cond.fieldLink RX5 7 "FogOrdersModel" "s" "[I" ∈ wsX5_save := List.mem_of_getElem? (i := 3) rfl
abbrev rX5_save : Room := { frames := 0, cells := 0, slots := 0, locals := 0 }
set_option maxHeartbeats 4000000 in
set_option maxRecDepth 100000 in
theorem c_X5_save (l : Launch) (D : va_G) (cI cZ cB cJ : ClassId) (A_t : Nat) (A_t_s : Nat) (A_t_aside : Nat) (A_t_snapshot : Nat) (A_t_saved : Nat) (A_t_text : Nat) (A_t_counts : Nat) (A_t_isCut : Nat) (A_t_strength : Nat) (A_t_fails : Nat) (A_t_why : Nat) (A_t_driver : Nat) (A_t_place : Nat) (A_t_isDone : Nat) (sz : Nat) (V_t_thrown : Int32) (V_t_isKept : Int32) (V_t_savedMany : Int32) (V_t_length : Int32) (V_t_position : Int32) (V_t_isWrong : Int32) (V_t_digested : Int64) (V_t_s : Nat → Int32) (V_t_saved : Nat → Int32) (w1 : Int32) (w2 : Nat → Int32) (hg : g_X5_save V_t_savedMany V_t_s V_t_saved = some (w1, w2)) : Met l yX5_save wsX5_save rX5_save (PcW D cI cZ cB cJ sz [(A_t, .inr (5, [.int V_t_thrown, .ref A_t_s, .ref A_t_aside, .ref A_t_snapshot, .int V_t_isKept, .ref A_t_saved, .int V_t_savedMany, .ref A_t_text, .int V_t_length, .ref A_t_counts, .ref A_t_isCut, .ref A_t_strength, .ref A_t_fails, .ref A_t_why, .ref A_t_driver, .ref A_t_place, .ref A_t_isDone, .int V_t_position, .int V_t_isWrong, .long V_t_digested])), (A_t_s, .inl (cI, 77, .inl V_t_s)), (A_t_saved, .inl (cI, 462, .inl V_t_saved))] [.ref A_t]) (QWv D cI cZ cB cJ sz [(A_t, .inr (5, [.int V_t_thrown, .ref A_t_s, .ref A_t_aside, .ref A_t_snapshot, .int V_t_isKept, .ref A_t_saved, .int V_t_savedMany, .ref A_t_text, .int V_t_length, .ref A_t_counts, .ref A_t_isCut, .ref A_t_strength, .ref A_t_fails, .ref A_t_why, .ref A_t_driver, .ref A_t_place, .ref A_t_isDone, .int V_t_position, .int V_t_isWrong, .long V_t_digested])), (A_t_s, .inl (cI, 77, .inl V_t_s)), (A_t_saved, .inl (cI, 462, .inl V_t_saved))] [(A_t, .inr (5, [.int V_t_thrown, .ref A_t_s, .ref A_t_aside, .ref A_t_snapshot, .int V_t_isKept, .ref A_t_saved, .int w1, .ref A_t_text, .int V_t_length, .ref A_t_counts, .ref A_t_isCut, .ref A_t_strength, .ref A_t_fails, .ref A_t_why, .ref A_t_driver, .ref A_t_place, .ref A_t_isDone, .int V_t_position, .int V_t_isWrong, .long V_t_digested])), (A_t_s, .inl (cI, 77, .inl V_t_s)), (A_t_saved, .inl (cI, 462, .inl w2))]) 0 0 (va_A [(A_t, .inr (5, [.int V_t_thrown, .ref A_t_s, .ref A_t_aside, .ref A_t_snapshot, .int V_t_isKept, .ref A_t_saved, .int V_t_savedMany, .ref A_t_text, .int V_t_length, .ref A_t_counts, .ref A_t_isCut, .ref A_t_strength, .ref A_t_fails, .ref A_t_why, .ref A_t_driver, .ref A_t_place, .ref A_t_isDone, .int V_t_position, .int V_t_isWrong, .long V_t_digested])), (A_t_s, .inl (cI, 77, .inl V_t_s)), (A_t_saved, .inl (cI, 462, .inl V_t_saved))] sz) := by
  refine bodyWv (cc := cX5_save) (maxL := 2) (lv := [(0, .ref A_t)]) (by decide) rfl (Nat.le_of_ble_eq_true rfl) rfl ?_
  intro p e s m args below meth c Q hx hb hml hown hts A hP hK hD hA hS fin ls hl
  replace hown : s.vm.findClass RX5 = some m.cls := hown
  have S : CallFix p m c cX5_save 2 s args wsX5_save RX5 := ⟨hx, hb, hml, hown, hts⟩
  unfold g_X5_save at hg
  refine lv_aload_n hx hb dX5_save_0 rfl (lv_at hl 0 rfl) ?_
  refine xget (ci := 5) (C := RX5) (T := TX5) (N := 20) (v := .int V_t_savedMany) hx hb hts in_X5_save_X5 hown hK hP 0 rfl rfl 6 (by decide) wd_X5_save_1 rfl dX5_save_1 ?_
  refine lv_bipush (v := 6) hx hb dX5_save_4 (by decide) ?_
  refine lv_icmp_ne (tgt := 49) hx hb dX5_save_6 (by decide) (fun hc => ?_) (fun hc => ?_)
  · replace hg := if_no hg hc
    refine lv_iconst (v := 0) hx hb dX5_save_49 (by decide) ?_
    refine lv_istore_n (lv' := [(1, .int 0), (0, .ref A_t)]) hx hb dX5_save_50 rfl hl (by decide) rfl (fun ls hl => ?_)
    obtain ⟨f5, hL, hg⟩ := bind_ex hg
    have kx : ∀ (H : Heap) (locs : List Loc), va_P D vwCl [(A_t, .inr (5, [.int V_t_thrown, .ref A_t_s, .ref A_t_aside, .ref A_t_snapshot, .int V_t_isKept, .ref A_t_saved, .int V_t_savedMany, .ref A_t_text, .int V_t_length, .ref A_t_counts, .ref A_t_isCut, .ref A_t_strength, .ref A_t_fails, .ref A_t_why, .ref A_t_driver, .ref A_t_place, .ref A_t_isDone, .int V_t_position, .int V_t_isWrong, .long V_t_digested])), (A_t_s, .inl (cI, 77, .inl V_t_s)), (A_t_saved, .inl (cI, 462, .inl f5))] H → va_D A [(A_t, .inr (5, [.int V_t_thrown, .ref A_t_s, .ref A_t_aside, .ref A_t_snapshot, .int V_t_isKept, .ref A_t_saved, .int V_t_savedMany, .ref A_t_text, .int V_t_length, .ref A_t_counts, .ref A_t_isCut, .ref A_t_strength, .ref A_t_fails, .ref A_t_why, .ref A_t_driver, .ref A_t_place, .ref A_t_isDone, .int V_t_position, .int V_t_isWrong, .long V_t_digested])), (A_t_s, .inl (cI, 77, .inl V_t_s)), (A_t_saved, .inl (cI, 462, .inl f5))] → va_S A s.heap H locs → ∀ ls : Array Slot, lv_has ls 2 [(0, .ref A_t)] → W p l e rX5_save s m args below meth c H locs 0 0 Q (F0 m 83 ls []) := by
      intro H locs hP hD hS ls hl
      refine lv_aload_n hx hb dX5_save_83 rfl (lv_at hl 0 rfl) ?_
      refine lv_dup hx hb dX5_save_84 rfl ?_
      refine xget (ci := 5) (C := RX5) (T := TX5) (N := 20) (v := .int V_t_savedMany) hx hb hts in_X5_save_X5 hown hK hP 0 rfl rfl 6 (by decide) wd_X5_save_1 rfl dX5_save_85 ?_
      refine lv_iconst (v := 1) hx hb dX5_save_88 (by decide) ?_
      refine lv_iadd hx hb dX5_save_89 ?_
      refine xput (ci := 5) (C := RX5) (T := TX5) (N := 20) (ty := .int) (v := .int (V_t_savedMany + 1)) (ws2 := [(A_t, .inr (5, [.int V_t_thrown, .ref A_t_s, .ref A_t_aside, .ref A_t_snapshot, .int V_t_isKept, .ref A_t_saved, .int (V_t_savedMany + 1), .ref A_t_text, .int V_t_length, .ref A_t_counts, .ref A_t_isCut, .ref A_t_strength, .ref A_t_fails, .ref A_t_why, .ref A_t_driver, .ref A_t_place, .ref A_t_isDone, .int V_t_position, .int V_t_isWrong, .long V_t_digested])), (A_t_s, .inl (cI, 77, .inl V_t_s)), (A_t_saved, .inl (cI, 462, .inl f5))]) hx hb hts in_X5_save_X5 tyX5 tyX5_ok nmX5 hown hK hP hD hS 0 rfl rfl 6 (by decide) wd_X5_save_1 rfl (by decide +kernel) rfl rfl (Nat.le_of_ble_eq_true rfl) rfl dX5_save_90 (fun H locs hP hD hS => ?_)
      cases hg
      exact fin _ _ _ _ dX5_save_93 hP hD hS
    have L : ∀ (nf : Nat) (v1 : Int32) (f2 : Nat → Int32), ∀ (H : Heap) (locs : List Loc), va_P D vwCl [(A_t, .inr (5, [.int V_t_thrown, .ref A_t_s, .ref A_t_aside, .ref A_t_snapshot, .int V_t_isKept, .ref A_t_saved, .int V_t_savedMany, .ref A_t_text, .int V_t_length, .ref A_t_counts, .ref A_t_isCut, .ref A_t_strength, .ref A_t_fails, .ref A_t_why, .ref A_t_driver, .ref A_t_place, .ref A_t_isDone, .int V_t_position, .int V_t_isWrong, .long V_t_digested])), (A_t_s, .inl (cI, 77, .inl V_t_s)), (A_t_saved, .inl (cI, 462, .inl f2))] H → va_D A [(A_t, .inr (5, [.int V_t_thrown, .ref A_t_s, .ref A_t_aside, .ref A_t_snapshot, .int V_t_isKept, .ref A_t_saved, .int V_t_savedMany, .ref A_t_text, .int V_t_length, .ref A_t_counts, .ref A_t_isCut, .ref A_t_strength, .ref A_t_fails, .ref A_t_why, .ref A_t_driver, .ref A_t_place, .ref A_t_isDone, .int V_t_position, .int V_t_isWrong, .long V_t_digested])), (A_t_s, .inl (cI, 77, .inl V_t_s)), (A_t_saved, .inl (cI, 462, .inl f2))] → va_S A s.heap H locs → ∀ ls : Array Slot, lv_has ls 2 [(1, .int v1), (0, .ref A_t)] → g_X5_save_L1 V_t_s V_t_savedMany nf v1 f2 = some f5 → W p l e rX5_save s m args below meth c H locs 0 0 Q (F0 m 51 ls []) := by
      intro nf
      induction nf with
      | zero =>
        intro v1 f2 H locs hP hD hS ls hl hg
        exact no_some hg
      | succ nf ih =>
        intro v1 f2 H locs hP hD hS ls hl hg
        rw [g_X5_save_L1] at hg
        refine lv_iload_n hx hb dX5_save_51 rfl (lv_at hl 0 rfl) ?_
        refine lv_bipush (v := 77) hx hb dX5_save_52 (by decide) ?_
        refine lv_icmp_ge (tgt := 83) hx hb dX5_save_54 (by decide) (fun hc => ?_) (fun hc => ?_)
        · replace hg := if_yes hg hc
          cases hg
          exact kx _ _ hP hD hS _ (lv_sub hl [1] rfl)
        · replace hg := if_no hg hc
          refine lv_aload_n hx hb dX5_save_57 rfl (lv_at hl 1 rfl) ?_
          refine xget (ci := 5) (C := RX5) (T := TX5) (N := 20) (v := .ref A_t_saved) hx hb hts in_X5_save_X5 hown hK hP 0 rfl rfl 5 (by decide) wd_X5_save_2 rfl dX5_save_58 ?_
          refine lv_bipush (v := 77) hx hb dX5_save_61 (by decide) ?_
          refine lv_aload_n hx hb dX5_save_63 rfl (lv_at hl 1 rfl) ?_
          refine xget (ci := 5) (C := RX5) (T := TX5) (N := 20) (v := .int V_t_savedMany) hx hb hts in_X5_save_X5 hown hK hP 0 rfl rfl 6 (by decide) wd_X5_save_1 rfl dX5_save_64 ?_
          refine lv_imul hx hb dX5_save_67 ?_
          refine lv_iload_n hx hb dX5_save_68 rfl (lv_at hl 0 rfl) ?_
          refine lv_iadd hx hb dX5_save_69 ?_
          refine lv_aload_n hx hb dX5_save_70 rfl (lv_at hl 1 rfl) ?_
          refine xget (ci := 5) (C := RX5) (T := TX5) (N := 20) (v := .ref A_t_s) hx hb hts in_X5_save_X5 hown hK hP 0 rfl rfl 1 (by decide) wd_X5_save_3 rfl dX5_save_71 ?_
          refine lv_iload_n hx hb dX5_save_74 rfl (lv_at hl 0 rfl) ?_
          obtain ⟨v3, hin, hv, hg⟩ := rdA_ex hg
          refine xiald hx hb hK hP 1 rfl hin hv dX5_save_75 ?_
          obtain ⟨f4, hin, hv, hg⟩ := wrA_ex hg
          refine xiast (ws2 := [(A_t, .inr (5, [.int V_t_thrown, .ref A_t_s, .ref A_t_aside, .ref A_t_snapshot, .int V_t_isKept, .ref A_t_saved, .int V_t_savedMany, .ref A_t_text, .int V_t_length, .ref A_t_counts, .ref A_t_isCut, .ref A_t_strength, .ref A_t_fails, .ref A_t_why, .ref A_t_driver, .ref A_t_place, .ref A_t_isDone, .int V_t_position, .int V_t_isWrong, .long V_t_digested])), (A_t_s, .inl (cI, 77, .inl V_t_s)), (A_t_saved, .inl (cI, 462, .inl f4))]) hx hb hK hP hD hS 2 rfl hin hv rfl dX5_save_76 (fun H locs hP hD hS => ?_)
          refine lv_iinc (v := (v1 + 1)) (lv' := [(1, .int (v1 + 1)), (0, .ref A_t)]) hx hb dX5_save_77 hl (k := 0) rfl rfl (by decide) rfl (fun ls hl => ?_)
          refine lv_goto (tgt := 51) hx hb dX5_save_80 (by decide) ?_
          exact ih _ _ _ _ hP hD hS _ (lv_sub hl [0, 1] rfl) hg
    exact L FU _ _ _ _ hP hD hS _ (lv_sub hl [0, 1] rfl) hL
  · replace hg := if_yes hg hc
    refine lv_iconst (v := 0) hx hb dX5_save_9 (by decide) ?_
    refine lv_istore_n (lv' := [(1, .int 0), (0, .ref A_t)]) hx hb dX5_save_10 rfl hl (by decide) rfl (fun ls hl => ?_)
    obtain ⟨f10, hL, hg⟩ := bind_ex hg
    have kx : ∀ (H : Heap) (locs : List Loc), va_P D vwCl [(A_t, .inr (5, [.int V_t_thrown, .ref A_t_s, .ref A_t_aside, .ref A_t_snapshot, .int V_t_isKept, .ref A_t_saved, .int V_t_savedMany, .ref A_t_text, .int V_t_length, .ref A_t_counts, .ref A_t_isCut, .ref A_t_strength, .ref A_t_fails, .ref A_t_why, .ref A_t_driver, .ref A_t_place, .ref A_t_isDone, .int V_t_position, .int V_t_isWrong, .long V_t_digested])), (A_t_s, .inl (cI, 77, .inl V_t_s)), (A_t_saved, .inl (cI, 462, .inl f10))] H → va_D A [(A_t, .inr (5, [.int V_t_thrown, .ref A_t_s, .ref A_t_aside, .ref A_t_snapshot, .int V_t_isKept, .ref A_t_saved, .int V_t_savedMany, .ref A_t_text, .int V_t_length, .ref A_t_counts, .ref A_t_isCut, .ref A_t_strength, .ref A_t_fails, .ref A_t_why, .ref A_t_driver, .ref A_t_place, .ref A_t_isDone, .int V_t_position, .int V_t_isWrong, .long V_t_digested])), (A_t_s, .inl (cI, 77, .inl V_t_s)), (A_t_saved, .inl (cI, 462, .inl f10))] → va_S A s.heap H locs → ∀ ls : Array Slot, lv_has ls 2 [(0, .ref A_t)] → W p l e rX5_save s m args below meth c H locs 0 0 Q (F0 m 39 ls []) := by
      intro H locs hP hD hS ls hl
      refine lv_aload_n hx hb dX5_save_39 rfl (lv_at hl 0 rfl) ?_
      refine lv_dup hx hb dX5_save_40 rfl ?_
      refine xget (ci := 5) (C := RX5) (T := TX5) (N := 20) (v := .int V_t_savedMany) hx hb hts in_X5_save_X5 hown hK hP 0 rfl rfl 6 (by decide) wd_X5_save_1 rfl dX5_save_41 ?_
      refine lv_iconst (v := 1) hx hb dX5_save_44 (by decide) ?_
      refine lv_isub hx hb dX5_save_45 ?_
      refine xput (ci := 5) (C := RX5) (T := TX5) (N := 20) (ty := .int) (v := .int (V_t_savedMany - 1)) (ws2 := [(A_t, .inr (5, [.int V_t_thrown, .ref A_t_s, .ref A_t_aside, .ref A_t_snapshot, .int V_t_isKept, .ref A_t_saved, .int (V_t_savedMany - 1), .ref A_t_text, .int V_t_length, .ref A_t_counts, .ref A_t_isCut, .ref A_t_strength, .ref A_t_fails, .ref A_t_why, .ref A_t_driver, .ref A_t_place, .ref A_t_isDone, .int V_t_position, .int V_t_isWrong, .long V_t_digested])), (A_t_s, .inl (cI, 77, .inl V_t_s)), (A_t_saved, .inl (cI, 462, .inl f10))]) hx hb hts in_X5_save_X5 tyX5 tyX5_ok nmX5 hown hK hP hD hS 0 rfl rfl 6 (by decide) wd_X5_save_1 rfl (by decide +kernel) rfl rfl (Nat.le_of_ble_eq_true rfl) rfl dX5_save_46 (fun H locs hP hD hS => ?_)
      refine lv_iconst (v := 0) hx hb dX5_save_49 (by decide) ?_
      refine lv_istore_n (lv' := [(1, .int 0), (0, .ref A_t)]) hx hb dX5_save_50 rfl hl (by decide) rfl (fun ls hl => ?_)
      obtain ⟨f15, hL, hg⟩ := bind_ex hg
      have kx : ∀ (H : Heap) (locs : List Loc), va_P D vwCl [(A_t, .inr (5, [.int V_t_thrown, .ref A_t_s, .ref A_t_aside, .ref A_t_snapshot, .int V_t_isKept, .ref A_t_saved, .int (V_t_savedMany - 1), .ref A_t_text, .int V_t_length, .ref A_t_counts, .ref A_t_isCut, .ref A_t_strength, .ref A_t_fails, .ref A_t_why, .ref A_t_driver, .ref A_t_place, .ref A_t_isDone, .int V_t_position, .int V_t_isWrong, .long V_t_digested])), (A_t_s, .inl (cI, 77, .inl V_t_s)), (A_t_saved, .inl (cI, 462, .inl f15))] H → va_D A [(A_t, .inr (5, [.int V_t_thrown, .ref A_t_s, .ref A_t_aside, .ref A_t_snapshot, .int V_t_isKept, .ref A_t_saved, .int (V_t_savedMany - 1), .ref A_t_text, .int V_t_length, .ref A_t_counts, .ref A_t_isCut, .ref A_t_strength, .ref A_t_fails, .ref A_t_why, .ref A_t_driver, .ref A_t_place, .ref A_t_isDone, .int V_t_position, .int V_t_isWrong, .long V_t_digested])), (A_t_s, .inl (cI, 77, .inl V_t_s)), (A_t_saved, .inl (cI, 462, .inl f15))] → va_S A s.heap H locs → ∀ ls : Array Slot, lv_has ls 2 [(0, .ref A_t)] → W p l e rX5_save s m args below meth c H locs 0 0 Q (F0 m 83 ls []) := by
        intro H locs hP hD hS ls hl
        refine lv_aload_n hx hb dX5_save_83 rfl (lv_at hl 0 rfl) ?_
        refine lv_dup hx hb dX5_save_84 rfl ?_
        refine xget (ci := 5) (C := RX5) (T := TX5) (N := 20) (v := .int (V_t_savedMany - 1)) hx hb hts in_X5_save_X5 hown hK hP 0 rfl rfl 6 (by decide) wd_X5_save_1 rfl dX5_save_85 ?_
        refine lv_iconst (v := 1) hx hb dX5_save_88 (by decide) ?_
        refine lv_iadd hx hb dX5_save_89 ?_
        refine xput (ci := 5) (C := RX5) (T := TX5) (N := 20) (ty := .int) (v := .int ((V_t_savedMany - 1) + 1)) (ws2 := [(A_t, .inr (5, [.int V_t_thrown, .ref A_t_s, .ref A_t_aside, .ref A_t_snapshot, .int V_t_isKept, .ref A_t_saved, .int ((V_t_savedMany - 1) + 1), .ref A_t_text, .int V_t_length, .ref A_t_counts, .ref A_t_isCut, .ref A_t_strength, .ref A_t_fails, .ref A_t_why, .ref A_t_driver, .ref A_t_place, .ref A_t_isDone, .int V_t_position, .int V_t_isWrong, .long V_t_digested])), (A_t_s, .inl (cI, 77, .inl V_t_s)), (A_t_saved, .inl (cI, 462, .inl f15))]) hx hb hts in_X5_save_X5 tyX5 tyX5_ok nmX5 hown hK hP hD hS 0 rfl rfl 6 (by decide) wd_X5_save_1 rfl (by decide +kernel) rfl rfl (Nat.le_of_ble_eq_true rfl) rfl dX5_save_90 (fun H locs hP hD hS => ?_)
        cases hg
        exact fin _ _ _ _ dX5_save_93 hP hD hS
      have L : ∀ (nf : Nat) (v11 : Int32) (f12 : Nat → Int32), ∀ (H : Heap) (locs : List Loc), va_P D vwCl [(A_t, .inr (5, [.int V_t_thrown, .ref A_t_s, .ref A_t_aside, .ref A_t_snapshot, .int V_t_isKept, .ref A_t_saved, .int (V_t_savedMany - 1), .ref A_t_text, .int V_t_length, .ref A_t_counts, .ref A_t_isCut, .ref A_t_strength, .ref A_t_fails, .ref A_t_why, .ref A_t_driver, .ref A_t_place, .ref A_t_isDone, .int V_t_position, .int V_t_isWrong, .long V_t_digested])), (A_t_s, .inl (cI, 77, .inl V_t_s)), (A_t_saved, .inl (cI, 462, .inl f12))] H → va_D A [(A_t, .inr (5, [.int V_t_thrown, .ref A_t_s, .ref A_t_aside, .ref A_t_snapshot, .int V_t_isKept, .ref A_t_saved, .int (V_t_savedMany - 1), .ref A_t_text, .int V_t_length, .ref A_t_counts, .ref A_t_isCut, .ref A_t_strength, .ref A_t_fails, .ref A_t_why, .ref A_t_driver, .ref A_t_place, .ref A_t_isDone, .int V_t_position, .int V_t_isWrong, .long V_t_digested])), (A_t_s, .inl (cI, 77, .inl V_t_s)), (A_t_saved, .inl (cI, 462, .inl f12))] → va_S A s.heap H locs → ∀ ls : Array Slot, lv_has ls 2 [(1, .int v11), (0, .ref A_t)] → g_X5_save_L3 V_t_s V_t_savedMany nf v11 f12 = some f15 → W p l e rX5_save s m args below meth c H locs 0 0 Q (F0 m 51 ls []) := by
        intro nf
        induction nf with
        | zero =>
          intro v11 f12 H locs hP hD hS ls hl hg
          exact no_some hg
        | succ nf ih =>
          intro v11 f12 H locs hP hD hS ls hl hg
          rw [g_X5_save_L3] at hg
          refine lv_iload_n hx hb dX5_save_51 rfl (lv_at hl 0 rfl) ?_
          refine lv_bipush (v := 77) hx hb dX5_save_52 (by decide) ?_
          refine lv_icmp_ge (tgt := 83) hx hb dX5_save_54 (by decide) (fun hc => ?_) (fun hc => ?_)
          · replace hg := if_yes hg hc
            cases hg
            exact kx _ _ hP hD hS _ (lv_sub hl [1] rfl)
          · replace hg := if_no hg hc
            refine lv_aload_n hx hb dX5_save_57 rfl (lv_at hl 1 rfl) ?_
            refine xget (ci := 5) (C := RX5) (T := TX5) (N := 20) (v := .ref A_t_saved) hx hb hts in_X5_save_X5 hown hK hP 0 rfl rfl 5 (by decide) wd_X5_save_2 rfl dX5_save_58 ?_
            refine lv_bipush (v := 77) hx hb dX5_save_61 (by decide) ?_
            refine lv_aload_n hx hb dX5_save_63 rfl (lv_at hl 1 rfl) ?_
            refine xget (ci := 5) (C := RX5) (T := TX5) (N := 20) (v := .int (V_t_savedMany - 1)) hx hb hts in_X5_save_X5 hown hK hP 0 rfl rfl 6 (by decide) wd_X5_save_1 rfl dX5_save_64 ?_
            refine lv_imul hx hb dX5_save_67 ?_
            refine lv_iload_n hx hb dX5_save_68 rfl (lv_at hl 0 rfl) ?_
            refine lv_iadd hx hb dX5_save_69 ?_
            refine lv_aload_n hx hb dX5_save_70 rfl (lv_at hl 1 rfl) ?_
            refine xget (ci := 5) (C := RX5) (T := TX5) (N := 20) (v := .ref A_t_s) hx hb hts in_X5_save_X5 hown hK hP 0 rfl rfl 1 (by decide) wd_X5_save_3 rfl dX5_save_71 ?_
            refine lv_iload_n hx hb dX5_save_74 rfl (lv_at hl 0 rfl) ?_
            obtain ⟨v13, hin, hv, hg⟩ := rdA_ex hg
            refine xiald hx hb hK hP 1 rfl hin hv dX5_save_75 ?_
            obtain ⟨f14, hin, hv, hg⟩ := wrA_ex hg
            refine xiast (ws2 := [(A_t, .inr (5, [.int V_t_thrown, .ref A_t_s, .ref A_t_aside, .ref A_t_snapshot, .int V_t_isKept, .ref A_t_saved, .int (V_t_savedMany - 1), .ref A_t_text, .int V_t_length, .ref A_t_counts, .ref A_t_isCut, .ref A_t_strength, .ref A_t_fails, .ref A_t_why, .ref A_t_driver, .ref A_t_place, .ref A_t_isDone, .int V_t_position, .int V_t_isWrong, .long V_t_digested])), (A_t_s, .inl (cI, 77, .inl V_t_s)), (A_t_saved, .inl (cI, 462, .inl f14))]) hx hb hK hP hD hS 2 rfl hin hv rfl dX5_save_76 (fun H locs hP hD hS => ?_)
            refine lv_iinc (v := (v11 + 1)) (lv' := [(1, .int (v11 + 1)), (0, .ref A_t)]) hx hb dX5_save_77 hl (k := 0) rfl rfl (by decide) rfl (fun ls hl => ?_)
            refine lv_goto (tgt := 51) hx hb dX5_save_80 (by decide) ?_
            exact ih _ _ _ _ hP hD hS _ (lv_sub hl [0, 1] rfl) hg
      exact L FU _ _ _ _ hP hD hS _ (lv_sub hl [0, 1] rfl) hL
    have L : ∀ (nf : Nat) (v6 : Int32) (f7 : Nat → Int32), ∀ (H : Heap) (locs : List Loc), va_P D vwCl [(A_t, .inr (5, [.int V_t_thrown, .ref A_t_s, .ref A_t_aside, .ref A_t_snapshot, .int V_t_isKept, .ref A_t_saved, .int V_t_savedMany, .ref A_t_text, .int V_t_length, .ref A_t_counts, .ref A_t_isCut, .ref A_t_strength, .ref A_t_fails, .ref A_t_why, .ref A_t_driver, .ref A_t_place, .ref A_t_isDone, .int V_t_position, .int V_t_isWrong, .long V_t_digested])), (A_t_s, .inl (cI, 77, .inl V_t_s)), (A_t_saved, .inl (cI, 462, .inl f7))] H → va_D A [(A_t, .inr (5, [.int V_t_thrown, .ref A_t_s, .ref A_t_aside, .ref A_t_snapshot, .int V_t_isKept, .ref A_t_saved, .int V_t_savedMany, .ref A_t_text, .int V_t_length, .ref A_t_counts, .ref A_t_isCut, .ref A_t_strength, .ref A_t_fails, .ref A_t_why, .ref A_t_driver, .ref A_t_place, .ref A_t_isDone, .int V_t_position, .int V_t_isWrong, .long V_t_digested])), (A_t_s, .inl (cI, 77, .inl V_t_s)), (A_t_saved, .inl (cI, 462, .inl f7))] → va_S A s.heap H locs → ∀ ls : Array Slot, lv_has ls 2 [(1, .int v6), (0, .ref A_t)] → g_X5_save_L2 nf v6 f7 = some f10 → W p l e rX5_save s m args below meth c H locs 0 0 Q (F0 m 11 ls []) := by
      intro nf
      induction nf with
      | zero =>
        intro v6 f7 H locs hP hD hS ls hl hg
        exact no_some hg
      | succ nf ih =>
        intro v6 f7 H locs hP hD hS ls hl hg
        rw [g_X5_save_L2] at hg
        refine lv_iload_n hx hb dX5_save_11 rfl (lv_at hl 0 rfl) ?_
        refine lv_sipush (v := 385) hx hb dX5_save_12 (by decide) ?_
        refine lv_icmp_ge (tgt := 39) hx hb dX5_save_15 (by decide) (fun hc => ?_) (fun hc => ?_)
        · replace hg := if_yes hg hc
          cases hg
          exact kx _ _ hP hD hS _ (lv_sub hl [1] rfl)
        · replace hg := if_no hg hc
          refine lv_aload_n hx hb dX5_save_18 rfl (lv_at hl 1 rfl) ?_
          refine xget (ci := 5) (C := RX5) (T := TX5) (N := 20) (v := .ref A_t_saved) hx hb hts in_X5_save_X5 hown hK hP 0 rfl rfl 5 (by decide) wd_X5_save_2 rfl dX5_save_19 ?_
          refine lv_iload_n hx hb dX5_save_22 rfl (lv_at hl 0 rfl) ?_
          refine lv_aload_n hx hb dX5_save_23 rfl (lv_at hl 1 rfl) ?_
          refine xget (ci := 5) (C := RX5) (T := TX5) (N := 20) (v := .ref A_t_saved) hx hb hts in_X5_save_X5 hown hK hP 0 rfl rfl 5 (by decide) wd_X5_save_2 rfl dX5_save_24 ?_
          refine lv_bipush (v := 77) hx hb dX5_save_27 (by decide) ?_
          refine lv_iload_n hx hb dX5_save_29 rfl (lv_at hl 0 rfl) ?_
          refine lv_iadd hx hb dX5_save_30 ?_
          obtain ⟨v8, hin, hv, hg⟩ := rdA_ex hg
          refine xiald hx hb hK hP 2 rfl hin hv dX5_save_31 ?_
          obtain ⟨f9, hin, hv, hg⟩ := wrA_ex hg
          refine xiast (ws2 := [(A_t, .inr (5, [.int V_t_thrown, .ref A_t_s, .ref A_t_aside, .ref A_t_snapshot, .int V_t_isKept, .ref A_t_saved, .int V_t_savedMany, .ref A_t_text, .int V_t_length, .ref A_t_counts, .ref A_t_isCut, .ref A_t_strength, .ref A_t_fails, .ref A_t_why, .ref A_t_driver, .ref A_t_place, .ref A_t_isDone, .int V_t_position, .int V_t_isWrong, .long V_t_digested])), (A_t_s, .inl (cI, 77, .inl V_t_s)), (A_t_saved, .inl (cI, 462, .inl f9))]) hx hb hK hP hD hS 2 rfl hin hv rfl dX5_save_32 (fun H locs hP hD hS => ?_)
          refine lv_iinc (v := (v6 + 1)) (lv' := [(1, .int (v6 + 1)), (0, .ref A_t)]) hx hb dX5_save_33 hl (k := 0) rfl rfl (by decide) rfl (fun ls hl => ?_)
          refine lv_goto (tgt := 11) hx hb dX5_save_36 (by decide) ?_
          exact ih _ _ _ _ hP hD hS _ (lv_sub hl [0, 1] rfl) hg
    exact L FU _ _ _ _ hP hD hS _ (lv_sub hl [0, 1] rfl) hL
theorem hd_X5_putAside : yX5_putAside.cls = RX5 ∧ yX5_putAside.cls ≠ "java/lang/invoke/MethodHandle" ∧ yX5_putAside.cls ≠ "java/lang/invoke/VarHandle" ∧ (parseMethodDescriptor yX5_putAside.desc).map (fun d => d.parameters.length) = some 0 := by decide +kernel
theorem in_X5_putAside_X5 : ∀ w ∈ u_ws RX5 TX5 20, w ∈ wsX5_putAside := fun _ h => List.mem_cons_of_mem _ (List.mem_append_right _ h)
theorem wd_X5_putAside_1 : Cond.fieldLink RX5 13 "FogOrdersModel" "aside" "[I" ∈ wsX5_putAside := List.mem_of_getElem? (i := 1) rfl
theorem wd_X5_putAside_2 : Cond.fieldLink RX5 7 "FogOrdersModel" "s" "[I" ∈ wsX5_putAside := List.mem_of_getElem? (i := 2) rfl
abbrev rX5_putAside : Room := { frames := 0, cells := 0, slots := 0, locals := 0 }
set_option maxHeartbeats 4000000 in
set_option maxRecDepth 100000 in
theorem c_X5_putAside (l : Launch) (D : va_G) (cI cZ cB cJ : ClassId) (A_t : Nat) (A_t_s : Nat) (A_t_aside : Nat) (A_t_snapshot : Nat) (A_t_saved : Nat) (A_t_text : Nat) (A_t_counts : Nat) (A_t_isCut : Nat) (A_t_strength : Nat) (A_t_fails : Nat) (A_t_why : Nat) (A_t_driver : Nat) (A_t_place : Nat) (A_t_isDone : Nat) (sz : Nat) (V_t_thrown : Int32) (V_t_isKept : Int32) (V_t_savedMany : Int32) (V_t_length : Int32) (V_t_position : Int32) (V_t_isWrong : Int32) (V_t_digested : Int64) (V_t_s : Nat → Int32) (V_t_aside : Nat → Int32) (w1 : Nat → Int32) (hg : g_X5_putAside V_t_s V_t_aside = some w1) : Met l yX5_putAside wsX5_putAside rX5_putAside (PcW D cI cZ cB cJ sz [(A_t, .inr (5, [.int V_t_thrown, .ref A_t_s, .ref A_t_aside, .ref A_t_snapshot, .int V_t_isKept, .ref A_t_saved, .int V_t_savedMany, .ref A_t_text, .int V_t_length, .ref A_t_counts, .ref A_t_isCut, .ref A_t_strength, .ref A_t_fails, .ref A_t_why, .ref A_t_driver, .ref A_t_place, .ref A_t_isDone, .int V_t_position, .int V_t_isWrong, .long V_t_digested])), (A_t_s, .inl (cI, 77, .inl V_t_s)), (A_t_aside, .inl (cI, 77, .inl V_t_aside))] [.ref A_t]) (QWv D cI cZ cB cJ sz [(A_t, .inr (5, [.int V_t_thrown, .ref A_t_s, .ref A_t_aside, .ref A_t_snapshot, .int V_t_isKept, .ref A_t_saved, .int V_t_savedMany, .ref A_t_text, .int V_t_length, .ref A_t_counts, .ref A_t_isCut, .ref A_t_strength, .ref A_t_fails, .ref A_t_why, .ref A_t_driver, .ref A_t_place, .ref A_t_isDone, .int V_t_position, .int V_t_isWrong, .long V_t_digested])), (A_t_s, .inl (cI, 77, .inl V_t_s)), (A_t_aside, .inl (cI, 77, .inl V_t_aside))] [(A_t, .inr (5, [.int V_t_thrown, .ref A_t_s, .ref A_t_aside, .ref A_t_snapshot, .int V_t_isKept, .ref A_t_saved, .int V_t_savedMany, .ref A_t_text, .int V_t_length, .ref A_t_counts, .ref A_t_isCut, .ref A_t_strength, .ref A_t_fails, .ref A_t_why, .ref A_t_driver, .ref A_t_place, .ref A_t_isDone, .int V_t_position, .int V_t_isWrong, .long V_t_digested])), (A_t_s, .inl (cI, 77, .inl V_t_s)), (A_t_aside, .inl (cI, 77, .inl w1))]) 0 0 (va_A [(A_t, .inr (5, [.int V_t_thrown, .ref A_t_s, .ref A_t_aside, .ref A_t_snapshot, .int V_t_isKept, .ref A_t_saved, .int V_t_savedMany, .ref A_t_text, .int V_t_length, .ref A_t_counts, .ref A_t_isCut, .ref A_t_strength, .ref A_t_fails, .ref A_t_why, .ref A_t_driver, .ref A_t_place, .ref A_t_isDone, .int V_t_position, .int V_t_isWrong, .long V_t_digested])), (A_t_s, .inl (cI, 77, .inl V_t_s)), (A_t_aside, .inl (cI, 77, .inl V_t_aside))] sz) := by
  refine bodyWv (cc := cX5_putAside) (maxL := 2) (lv := [(0, .ref A_t)]) (by decide) rfl (Nat.le_of_ble_eq_true rfl) rfl ?_
  intro p e s m args below meth c Q hx hb hml hown hts A hP hK hD hA hS fin ls hl
  replace hown : s.vm.findClass RX5 = some m.cls := hown
  have S : CallFix p m c cX5_putAside 2 s args wsX5_putAside RX5 := ⟨hx, hb, hml, hown, hts⟩
  unfold g_X5_putAside at hg
  refine lv_iconst (v := 0) hx hb dX5_putAside_0 (by decide) ?_
  refine lv_istore_n (lv' := [(1, .int 0), (0, .ref A_t)]) hx hb dX5_putAside_1 rfl hl (by decide) rfl (fun ls hl => ?_)
  obtain ⟨f5, hL, hg⟩ := bind_ex hg
  have kx : ∀ (H : Heap) (locs : List Loc), va_P D vwCl [(A_t, .inr (5, [.int V_t_thrown, .ref A_t_s, .ref A_t_aside, .ref A_t_snapshot, .int V_t_isKept, .ref A_t_saved, .int V_t_savedMany, .ref A_t_text, .int V_t_length, .ref A_t_counts, .ref A_t_isCut, .ref A_t_strength, .ref A_t_fails, .ref A_t_why, .ref A_t_driver, .ref A_t_place, .ref A_t_isDone, .int V_t_position, .int V_t_isWrong, .long V_t_digested])), (A_t_s, .inl (cI, 77, .inl V_t_s)), (A_t_aside, .inl (cI, 77, .inl f5))] H → va_D A [(A_t, .inr (5, [.int V_t_thrown, .ref A_t_s, .ref A_t_aside, .ref A_t_snapshot, .int V_t_isKept, .ref A_t_saved, .int V_t_savedMany, .ref A_t_text, .int V_t_length, .ref A_t_counts, .ref A_t_isCut, .ref A_t_strength, .ref A_t_fails, .ref A_t_why, .ref A_t_driver, .ref A_t_place, .ref A_t_isDone, .int V_t_position, .int V_t_isWrong, .long V_t_digested])), (A_t_s, .inl (cI, 77, .inl V_t_s)), (A_t_aside, .inl (cI, 77, .inl f5))] → va_S A s.heap H locs → ∀ ls : Array Slot, lv_has ls 2 [] → W p l e rX5_putAside s m args below meth c H locs 0 0 Q (F0 m 26 ls []) := by
    intro H locs hP hD hS ls hl
    cases hg
    exact fin _ _ _ _ dX5_putAside_26 hP hD hS
  have L : ∀ (nf : Nat) (v1 : Int32) (f2 : Nat → Int32), ∀ (H : Heap) (locs : List Loc), va_P D vwCl [(A_t, .inr (5, [.int V_t_thrown, .ref A_t_s, .ref A_t_aside, .ref A_t_snapshot, .int V_t_isKept, .ref A_t_saved, .int V_t_savedMany, .ref A_t_text, .int V_t_length, .ref A_t_counts, .ref A_t_isCut, .ref A_t_strength, .ref A_t_fails, .ref A_t_why, .ref A_t_driver, .ref A_t_place, .ref A_t_isDone, .int V_t_position, .int V_t_isWrong, .long V_t_digested])), (A_t_s, .inl (cI, 77, .inl V_t_s)), (A_t_aside, .inl (cI, 77, .inl f2))] H → va_D A [(A_t, .inr (5, [.int V_t_thrown, .ref A_t_s, .ref A_t_aside, .ref A_t_snapshot, .int V_t_isKept, .ref A_t_saved, .int V_t_savedMany, .ref A_t_text, .int V_t_length, .ref A_t_counts, .ref A_t_isCut, .ref A_t_strength, .ref A_t_fails, .ref A_t_why, .ref A_t_driver, .ref A_t_place, .ref A_t_isDone, .int V_t_position, .int V_t_isWrong, .long V_t_digested])), (A_t_s, .inl (cI, 77, .inl V_t_s)), (A_t_aside, .inl (cI, 77, .inl f2))] → va_S A s.heap H locs → ∀ ls : Array Slot, lv_has ls 2 [(1, .int v1), (0, .ref A_t)] → g_X5_putAside_L1 V_t_s nf v1 f2 = some f5 → W p l e rX5_putAside s m args below meth c H locs 0 0 Q (F0 m 2 ls []) := by
    intro nf
    induction nf with
    | zero =>
      intro v1 f2 H locs hP hD hS ls hl hg
      exact no_some hg
    | succ nf ih =>
      intro v1 f2 H locs hP hD hS ls hl hg
      rw [g_X5_putAside_L1] at hg
      refine lv_iload_n hx hb dX5_putAside_2 rfl (lv_at hl 0 rfl) ?_
      refine lv_bipush (v := 77) hx hb dX5_putAside_3 (by decide) ?_
      refine lv_icmp_ge (tgt := 26) hx hb dX5_putAside_5 (by decide) (fun hc => ?_) (fun hc => ?_)
      · replace hg := if_yes hg hc
        cases hg
        exact kx _ _ hP hD hS _ (lv_sub hl [] rfl)
      · replace hg := if_no hg hc
        refine lv_aload_n hx hb dX5_putAside_8 rfl (lv_at hl 1 rfl) ?_
        refine xget (ci := 5) (C := RX5) (T := TX5) (N := 20) (v := .ref A_t_aside) hx hb hts in_X5_putAside_X5 hown hK hP 0 rfl rfl 2 (by decide) wd_X5_putAside_1 rfl dX5_putAside_9 ?_
        refine lv_iload_n hx hb dX5_putAside_12 rfl (lv_at hl 0 rfl) ?_
        refine lv_aload_n hx hb dX5_putAside_13 rfl (lv_at hl 1 rfl) ?_
        refine xget (ci := 5) (C := RX5) (T := TX5) (N := 20) (v := .ref A_t_s) hx hb hts in_X5_putAside_X5 hown hK hP 0 rfl rfl 1 (by decide) wd_X5_putAside_2 rfl dX5_putAside_14 ?_
        refine lv_iload_n hx hb dX5_putAside_17 rfl (lv_at hl 0 rfl) ?_
        obtain ⟨v3, hin, hv, hg⟩ := rdA_ex hg
        refine xiald hx hb hK hP 1 rfl hin hv dX5_putAside_18 ?_
        obtain ⟨f4, hin, hv, hg⟩ := wrA_ex hg
        refine xiast (ws2 := [(A_t, .inr (5, [.int V_t_thrown, .ref A_t_s, .ref A_t_aside, .ref A_t_snapshot, .int V_t_isKept, .ref A_t_saved, .int V_t_savedMany, .ref A_t_text, .int V_t_length, .ref A_t_counts, .ref A_t_isCut, .ref A_t_strength, .ref A_t_fails, .ref A_t_why, .ref A_t_driver, .ref A_t_place, .ref A_t_isDone, .int V_t_position, .int V_t_isWrong, .long V_t_digested])), (A_t_s, .inl (cI, 77, .inl V_t_s)), (A_t_aside, .inl (cI, 77, .inl f4))]) hx hb hK hP hD hS 2 rfl hin hv rfl dX5_putAside_19 (fun H locs hP hD hS => ?_)
        refine lv_iinc (v := (v1 + 1)) (lv' := [(1, .int (v1 + 1)), (0, .ref A_t)]) hx hb dX5_putAside_20 hl (k := 0) rfl rfl (by decide) rfl (fun ls hl => ?_)
        refine lv_goto (tgt := 2) hx hb dX5_putAside_23 (by decide) ?_
        exact ih _ _ _ _ hP hD hS _ (lv_sub hl [0, 1] rfl) hg
  exact L FU _ _ _ _ hP hD hS _ (lv_sub hl [0, 1] rfl) hL
theorem hd_X5_putBack : yX5_putBack.cls = RX5 ∧ yX5_putBack.cls ≠ "java/lang/invoke/MethodHandle" ∧ yX5_putBack.cls ≠ "java/lang/invoke/VarHandle" ∧ (parseMethodDescriptor yX5_putBack.desc).map (fun d => d.parameters.length) = some 0 := by decide +kernel
theorem in_X5_putBack_X5 : ∀ w ∈ u_ws RX5 TX5 20, w ∈ wsX5_putBack := fun _ h => List.mem_cons_of_mem _ (List.mem_append_right _ h)
theorem wd_X5_putBack_1 : Cond.fieldLink RX5 7 "FogOrdersModel" "s" "[I" ∈ wsX5_putBack := List.mem_of_getElem? (i := 1) rfl
theorem wd_X5_putBack_2 : Cond.fieldLink RX5 13 "FogOrdersModel" "aside" "[I" ∈ wsX5_putBack := List.mem_of_getElem? (i := 2) rfl
abbrev rX5_putBack : Room := { frames := 0, cells := 0, slots := 0, locals := 0 }
set_option maxHeartbeats 4000000 in
set_option maxRecDepth 100000 in
theorem c_X5_putBack (l : Launch) (D : va_G) (cI cZ cB cJ : ClassId) (A_t : Nat) (A_t_s : Nat) (A_t_aside : Nat) (A_t_snapshot : Nat) (A_t_saved : Nat) (A_t_text : Nat) (A_t_counts : Nat) (A_t_isCut : Nat) (A_t_strength : Nat) (A_t_fails : Nat) (A_t_why : Nat) (A_t_driver : Nat) (A_t_place : Nat) (A_t_isDone : Nat) (sz : Nat) (V_t_thrown : Int32) (V_t_isKept : Int32) (V_t_savedMany : Int32) (V_t_length : Int32) (V_t_position : Int32) (V_t_isWrong : Int32) (V_t_digested : Int64) (V_t_aside : Nat → Int32) (V_t_s : Nat → Int32) (w1 : Nat → Int32) (hg : g_X5_putBack V_t_aside V_t_s = some w1) : Met l yX5_putBack wsX5_putBack rX5_putBack (PcW D cI cZ cB cJ sz [(A_t, .inr (5, [.int V_t_thrown, .ref A_t_s, .ref A_t_aside, .ref A_t_snapshot, .int V_t_isKept, .ref A_t_saved, .int V_t_savedMany, .ref A_t_text, .int V_t_length, .ref A_t_counts, .ref A_t_isCut, .ref A_t_strength, .ref A_t_fails, .ref A_t_why, .ref A_t_driver, .ref A_t_place, .ref A_t_isDone, .int V_t_position, .int V_t_isWrong, .long V_t_digested])), (A_t_aside, .inl (cI, 77, .inl V_t_aside)), (A_t_s, .inl (cI, 77, .inl V_t_s))] [.ref A_t]) (QWv D cI cZ cB cJ sz [(A_t, .inr (5, [.int V_t_thrown, .ref A_t_s, .ref A_t_aside, .ref A_t_snapshot, .int V_t_isKept, .ref A_t_saved, .int V_t_savedMany, .ref A_t_text, .int V_t_length, .ref A_t_counts, .ref A_t_isCut, .ref A_t_strength, .ref A_t_fails, .ref A_t_why, .ref A_t_driver, .ref A_t_place, .ref A_t_isDone, .int V_t_position, .int V_t_isWrong, .long V_t_digested])), (A_t_aside, .inl (cI, 77, .inl V_t_aside)), (A_t_s, .inl (cI, 77, .inl V_t_s))] [(A_t, .inr (5, [.int V_t_thrown, .ref A_t_s, .ref A_t_aside, .ref A_t_snapshot, .int V_t_isKept, .ref A_t_saved, .int V_t_savedMany, .ref A_t_text, .int V_t_length, .ref A_t_counts, .ref A_t_isCut, .ref A_t_strength, .ref A_t_fails, .ref A_t_why, .ref A_t_driver, .ref A_t_place, .ref A_t_isDone, .int V_t_position, .int V_t_isWrong, .long V_t_digested])), (A_t_aside, .inl (cI, 77, .inl V_t_aside)), (A_t_s, .inl (cI, 77, .inl w1))]) 0 0 (va_A [(A_t, .inr (5, [.int V_t_thrown, .ref A_t_s, .ref A_t_aside, .ref A_t_snapshot, .int V_t_isKept, .ref A_t_saved, .int V_t_savedMany, .ref A_t_text, .int V_t_length, .ref A_t_counts, .ref A_t_isCut, .ref A_t_strength, .ref A_t_fails, .ref A_t_why, .ref A_t_driver, .ref A_t_place, .ref A_t_isDone, .int V_t_position, .int V_t_isWrong, .long V_t_digested])), (A_t_aside, .inl (cI, 77, .inl V_t_aside)), (A_t_s, .inl (cI, 77, .inl V_t_s))] sz) := by
  refine bodyWv (cc := cX5_putBack) (maxL := 2) (lv := [(0, .ref A_t)]) (by decide) rfl (Nat.le_of_ble_eq_true rfl) rfl ?_
  intro p e s m args below meth c Q hx hb hml hown hts A hP hK hD hA hS fin ls hl
  replace hown : s.vm.findClass RX5 = some m.cls := hown
  have S : CallFix p m c cX5_putBack 2 s args wsX5_putBack RX5 := ⟨hx, hb, hml, hown, hts⟩
  unfold g_X5_putBack at hg
  refine lv_iconst (v := 0) hx hb dX5_putBack_0 (by decide) ?_
  refine lv_istore_n (lv' := [(1, .int 0), (0, .ref A_t)]) hx hb dX5_putBack_1 rfl hl (by decide) rfl (fun ls hl => ?_)
  obtain ⟨f5, hL, hg⟩ := bind_ex hg
  have kx : ∀ (H : Heap) (locs : List Loc), va_P D vwCl [(A_t, .inr (5, [.int V_t_thrown, .ref A_t_s, .ref A_t_aside, .ref A_t_snapshot, .int V_t_isKept, .ref A_t_saved, .int V_t_savedMany, .ref A_t_text, .int V_t_length, .ref A_t_counts, .ref A_t_isCut, .ref A_t_strength, .ref A_t_fails, .ref A_t_why, .ref A_t_driver, .ref A_t_place, .ref A_t_isDone, .int V_t_position, .int V_t_isWrong, .long V_t_digested])), (A_t_aside, .inl (cI, 77, .inl V_t_aside)), (A_t_s, .inl (cI, 77, .inl f5))] H → va_D A [(A_t, .inr (5, [.int V_t_thrown, .ref A_t_s, .ref A_t_aside, .ref A_t_snapshot, .int V_t_isKept, .ref A_t_saved, .int V_t_savedMany, .ref A_t_text, .int V_t_length, .ref A_t_counts, .ref A_t_isCut, .ref A_t_strength, .ref A_t_fails, .ref A_t_why, .ref A_t_driver, .ref A_t_place, .ref A_t_isDone, .int V_t_position, .int V_t_isWrong, .long V_t_digested])), (A_t_aside, .inl (cI, 77, .inl V_t_aside)), (A_t_s, .inl (cI, 77, .inl f5))] → va_S A s.heap H locs → ∀ ls : Array Slot, lv_has ls 2 [] → W p l e rX5_putBack s m args below meth c H locs 0 0 Q (F0 m 26 ls []) := by
    intro H locs hP hD hS ls hl
    cases hg
    exact fin _ _ _ _ dX5_putBack_26 hP hD hS
  have L : ∀ (nf : Nat) (v1 : Int32) (f2 : Nat → Int32), ∀ (H : Heap) (locs : List Loc), va_P D vwCl [(A_t, .inr (5, [.int V_t_thrown, .ref A_t_s, .ref A_t_aside, .ref A_t_snapshot, .int V_t_isKept, .ref A_t_saved, .int V_t_savedMany, .ref A_t_text, .int V_t_length, .ref A_t_counts, .ref A_t_isCut, .ref A_t_strength, .ref A_t_fails, .ref A_t_why, .ref A_t_driver, .ref A_t_place, .ref A_t_isDone, .int V_t_position, .int V_t_isWrong, .long V_t_digested])), (A_t_aside, .inl (cI, 77, .inl V_t_aside)), (A_t_s, .inl (cI, 77, .inl f2))] H → va_D A [(A_t, .inr (5, [.int V_t_thrown, .ref A_t_s, .ref A_t_aside, .ref A_t_snapshot, .int V_t_isKept, .ref A_t_saved, .int V_t_savedMany, .ref A_t_text, .int V_t_length, .ref A_t_counts, .ref A_t_isCut, .ref A_t_strength, .ref A_t_fails, .ref A_t_why, .ref A_t_driver, .ref A_t_place, .ref A_t_isDone, .int V_t_position, .int V_t_isWrong, .long V_t_digested])), (A_t_aside, .inl (cI, 77, .inl V_t_aside)), (A_t_s, .inl (cI, 77, .inl f2))] → va_S A s.heap H locs → ∀ ls : Array Slot, lv_has ls 2 [(1, .int v1), (0, .ref A_t)] → g_X5_putBack_L1 V_t_aside nf v1 f2 = some f5 → W p l e rX5_putBack s m args below meth c H locs 0 0 Q (F0 m 2 ls []) := by
    intro nf
    induction nf with
    | zero =>
      intro v1 f2 H locs hP hD hS ls hl hg
      exact no_some hg
    | succ nf ih =>
      intro v1 f2 H locs hP hD hS ls hl hg
      rw [g_X5_putBack_L1] at hg
      refine lv_iload_n hx hb dX5_putBack_2 rfl (lv_at hl 0 rfl) ?_
      refine lv_bipush (v := 77) hx hb dX5_putBack_3 (by decide) ?_
      refine lv_icmp_ge (tgt := 26) hx hb dX5_putBack_5 (by decide) (fun hc => ?_) (fun hc => ?_)
      · replace hg := if_yes hg hc
        cases hg
        exact kx _ _ hP hD hS _ (lv_sub hl [] rfl)
      · replace hg := if_no hg hc
        refine lv_aload_n hx hb dX5_putBack_8 rfl (lv_at hl 1 rfl) ?_
        refine xget (ci := 5) (C := RX5) (T := TX5) (N := 20) (v := .ref A_t_s) hx hb hts in_X5_putBack_X5 hown hK hP 0 rfl rfl 1 (by decide) wd_X5_putBack_1 rfl dX5_putBack_9 ?_
        refine lv_iload_n hx hb dX5_putBack_12 rfl (lv_at hl 0 rfl) ?_
        refine lv_aload_n hx hb dX5_putBack_13 rfl (lv_at hl 1 rfl) ?_
        refine xget (ci := 5) (C := RX5) (T := TX5) (N := 20) (v := .ref A_t_aside) hx hb hts in_X5_putBack_X5 hown hK hP 0 rfl rfl 2 (by decide) wd_X5_putBack_2 rfl dX5_putBack_14 ?_
        refine lv_iload_n hx hb dX5_putBack_17 rfl (lv_at hl 0 rfl) ?_
        obtain ⟨v3, hin, hv, hg⟩ := rdA_ex hg
        refine xiald hx hb hK hP 1 rfl hin hv dX5_putBack_18 ?_
        obtain ⟨f4, hin, hv, hg⟩ := wrA_ex hg
        refine xiast (ws2 := [(A_t, .inr (5, [.int V_t_thrown, .ref A_t_s, .ref A_t_aside, .ref A_t_snapshot, .int V_t_isKept, .ref A_t_saved, .int V_t_savedMany, .ref A_t_text, .int V_t_length, .ref A_t_counts, .ref A_t_isCut, .ref A_t_strength, .ref A_t_fails, .ref A_t_why, .ref A_t_driver, .ref A_t_place, .ref A_t_isDone, .int V_t_position, .int V_t_isWrong, .long V_t_digested])), (A_t_aside, .inl (cI, 77, .inl V_t_aside)), (A_t_s, .inl (cI, 77, .inl f4))]) hx hb hK hP hD hS 2 rfl hin hv rfl dX5_putBack_19 (fun H locs hP hD hS => ?_)
        refine lv_iinc (v := (v1 + 1)) (lv' := [(1, .int (v1 + 1)), (0, .ref A_t)]) hx hb dX5_putBack_20 hl (k := 0) rfl rfl (by decide) rfl (fun ls hl => ?_)
        refine lv_goto (tgt := 2) hx hb dX5_putBack_23 (by decide) ?_
        exact ih _ _ _ _ hP hD hS _ (lv_sub hl [0, 1] rfl) hg
  exact L FU _ _ _ _ hP hD hS _ (lv_sub hl [0, 1] rfl) hL
theorem hd_X5_armyOn : yX5_armyOn.cls = RX5 ∧ yX5_armyOn.cls ≠ "java/lang/invoke/MethodHandle" ∧ yX5_armyOn.cls ≠ "java/lang/invoke/VarHandle" ∧ (parseMethodDescriptor yX5_armyOn.desc).map (fun d => d.parameters.length) = some 1 := by decide +kernel
theorem in_X5_armyOn_X5 : ∀ w ∈ u_ws RX5 TX5 20, w ∈ wsX5_armyOn := fun _ h => List.mem_cons_of_mem _ (List.mem_append_right _ h)
theorem wd_X5_armyOn_1 : Cond.fieldLink RX5 7 "FogOrdersModel" "s" "[I" ∈ wsX5_armyOn := List.mem_of_getElem? (i := 1) rfl
abbrev rX5_armyOn : Room := { frames := 2, cells := 0, slots := 0, locals := 43 }
set_option maxHeartbeats 4000000 in
set_option maxRecDepth 100000 in
theorem c_X5_armyOn (l : Launch) (D : va_G) (cI cZ cB cJ : ClassId) (A_t : Nat) (A_t_s : Nat) (A_t_aside : Nat) (A_t_snapshot : Nat) (A_t_saved : Nat) (A_t_text : Nat) (A_t_counts : Nat) (A_t_isCut : Nat) (A_t_strength : Nat) (A_t_fails : Nat) (A_t_why : Nat) (A_t_driver : Nat) (A_t_place : Nat) (A_t_isDone : Nat) (V_t_thrown : Int32) (V_t_isKept : Int32) (V_t_savedMany : Int32) (V_t_length : Int32) (V_t_position : Int32) (V_t_isWrong : Int32) (V_t_digested : Int64) (V_t_s : Nat → Int32) (x1 : Int32) (r0 : Int32) (hg : g_X5_armyOn V_t_s x1 = some r0) : Met l yX5_armyOn wsX5_armyOn rX5_armyOn (PcR D cI cZ cB cJ [(A_t, .inr (5, [.int V_t_thrown, .ref A_t_s, .ref A_t_aside, .ref A_t_snapshot, .int V_t_isKept, .ref A_t_saved, .int V_t_savedMany, .ref A_t_text, .int V_t_length, .ref A_t_counts, .ref A_t_isCut, .ref A_t_strength, .ref A_t_fails, .ref A_t_why, .ref A_t_driver, .ref A_t_place, .ref A_t_isDone, .int V_t_position, .int V_t_isWrong, .long V_t_digested])), (A_t_s, .inl (cI, 77, .inl V_t_s))] [.ref A_t, .int x1]) (vp_Si (fun r' => r' = r0 ∧ True)) 0 0 (fun _ => False) := by
  refine bodyRi (cc := cX5_armyOn) (maxL := 4) (lv := [(0, .ref A_t), (1, .int x1)]) (by decide) rfl (Nat.le_of_ble_eq_true rfl) rfl ?_
  intro p e s m args below meth c Q hx hb hml hown hts hP hK fin ls hl
  replace hown : s.vm.findClass RX5 = some m.cls := hown
  have S : CallFix p m c cX5_armyOn 4 s args wsX5_armyOn RX5 := ⟨hx, hb, hml, hown, hts⟩
  unfold g_X5_armyOn at hg
  refine lv_iconst (v := (-1)) hx hb dX5_armyOn_0 (by decide) ?_
  refine lv_istore_n (lv' := [(2, .int (-1)), (0, .ref A_t), (1, .int x1)]) hx hb dX5_armyOn_1 rfl hl (by decide) rfl (fun ls hl => ?_)
  refine lv_iconst (v := 0) hx hb dX5_armyOn_2 (by decide) ?_
  refine lv_istore_n (lv' := [(3, .int 0), (2, .int (-1)), (0, .ref A_t), (1, .int x1)]) hx hb dX5_armyOn_3 rfl hl (by decide) rfl (fun ls hl => ?_)
  obtain ⟨v5, hL, hg⟩ := bind_ex hg
  have kx : ∀ ls : Array Slot, lv_has ls 4 [(2, .int v5)] → W p l e rX5_armyOn s m args below meth c s.heap [] 0 0 Q (F0 m 37 ls []) := by
    intro ls hl
    refine lv_iload_n hx hb dX5_armyOn_37 rfl (lv_at hl 0 rfl) ?_
    cases hg
    exact fin _ _ dX5_armyOn_38
  have L : ∀ (nf : Nat) (v1 : Int32) (v2 : Int32), ∀ ls : Array Slot, lv_has ls 4 [(3, .int v2), (2, .int v1), (0, .ref A_t), (1, .int x1)] → g_X5_armyOn_L1 V_t_s x1 nf v1 v2 = some v5 → W p l e rX5_armyOn s m args below meth c s.heap [] 0 0 Q (F0 m 4 ls []) := by
    intro nf
    induction nf with
    | zero =>
      intro v1 v2 ls hl hg
      exact no_some hg
    | succ nf ih =>
      intro v1 v2 ls hl hg
      rw [g_X5_armyOn_L1] at hg
      refine lv_iload_n hx hb dX5_armyOn_4 rfl (lv_at hl 0 rfl) ?_
      refine lv_aload_n hx hb dX5_armyOn_5 rfl (lv_at hl 2 rfl) ?_
      refine xget (ci := 5) (C := RX5) (T := TX5) (N := 20) (v := .ref A_t_s) hx hb hts in_X5_armyOn_X5 hown hK hP 0 rfl rfl 1 (by decide) wd_X5_armyOn_1 rfl dX5_armyOn_6 ?_
      refine lv_bipush (v := 9) hx hb dX5_armyOn_9 (by decide) ?_
      obtain ⟨v3, hin, hv, hg⟩ := rdA_ex hg
      refine xiald hx hb hK hP 1 rfl hin hv dX5_armyOn_11 ?_
      refine lv_icmp_ge (tgt := 37) hx hb dX5_armyOn_12 (by decide) (fun hc => ?_) (fun hc => ?_)
      · replace hg := if_yes hg hc
        cases hg
        exact kx _ (lv_sub hl [1] rfl)
      · replace hg := if_no hg hc
        refine lv_aload_n hx hb dX5_armyOn_15 rfl (lv_at hl 2 rfl) ?_
        refine lv_iload_n hx hb dX5_armyOn_16 rfl (lv_at hl 0 rfl) ?_
        refine lv_iconst (v := 1) hx hb dX5_armyOn_17 (by decide) ?_
        obtain ⟨v4, hq, hg⟩ := bind_ex hg
        refine callRVi (As := [.int v2, .int 1]) (rest := []) S hK hP (c_X5_of l D cI cZ cB cJ A_t A_t_s A_t_aside A_t_snapshot A_t_saved A_t_text A_t_counts A_t_isCut A_t_strength A_t_fails A_t_why A_t_driver A_t_place A_t_isDone V_t_thrown V_t_isKept V_t_savedMany V_t_length V_t_position V_t_isWrong V_t_digested V_t_s v2 1 v4 hq) [0, 1] rfl (cwV 2 hts gX5_armyOn_X5_of rfl rfl rfl hd_X5_of ⟨Nat.le_of_ble_eq_true rfl, Nat.le_of_ble_eq_true rfl⟩) rfl rfl rfl hl.1 rfl (Nat.le_of_ble_eq_true rfl) dX5_armyOn_18 ⟨Nat.zero_le _, Nat.zero_le _⟩ ?_
        refine lv_iload_n hx hb dX5_armyOn_21 rfl (lv_at hl 3 rfl) ?_
        refine lv_icmp_ne (tgt := 29) hx hb dX5_armyOn_22 (by decide) (fun hc => ?_) (fun hc => ?_)
        · replace hg := if_no hg hc
          refine lv_iload_n hx hb dX5_armyOn_29 rfl (lv_at hl 1 rfl) ?_
          refine lv_istore_n (lv' := [(2, .int v1), (3, .int v2), (0, .ref A_t), (1, .int x1)]) hx hb dX5_armyOn_30 rfl hl (by decide) rfl (fun ls hl => ?_)
          refine lv_iinc (v := (v2 + 1)) (lv' := [(3, .int (v2 + 1)), (2, .int v1), (0, .ref A_t), (1, .int x1)]) hx hb dX5_armyOn_31 hl (k := 1) rfl rfl (by decide) rfl (fun ls hl => ?_)
          refine lv_goto (tgt := 4) hx hb dX5_armyOn_34 (by decide) ?_
          exact ih _ _ _ (lv_sub hl [0, 1, 2, 3] rfl) hg
        · replace hg := if_yes hg hc
          refine lv_iload_n hx hb dX5_armyOn_25 rfl (lv_at hl 0 rfl) ?_
          refine lv_goto (tgt := 30) hx hb dX5_armyOn_26 (by decide) ?_
          refine lv_istore_n (lv' := [(2, .int v2), (3, .int v2), (0, .ref A_t), (1, .int x1)]) hx hb dX5_armyOn_30 rfl hl (by decide) rfl (fun ls hl => ?_)
          refine lv_iinc (v := (v2 + 1)) (lv' := [(3, .int (v2 + 1)), (2, .int v2), (0, .ref A_t), (1, .int x1)]) hx hb dX5_armyOn_31 hl (k := 1) rfl rfl (by decide) rfl (fun ls hl => ?_)
          refine lv_goto (tgt := 4) hx hb dX5_armyOn_34 (by decide) ?_
          exact ih _ _ _ (lv_sub hl [0, 1, 2, 3] rfl) hg
  exact L FU _ _ _ (lv_sub hl [0, 1, 2, 3] rfl) hL
theorem hd_X5_moves : yX5_moves.cls = RX5 ∧ yX5_moves.cls ≠ "java/lang/invoke/MethodHandle" ∧ yX5_moves.cls ≠ "java/lang/invoke/VarHandle" ∧ (parseMethodDescriptor yX5_moves.desc).map (fun d => d.parameters.length) = some 1 := by decide +kernel
abbrev rX5_moves : Room := { frames := 2, cells := 0, slots := 0, locals := 43 }
set_option maxHeartbeats 4000000 in
set_option maxRecDepth 100000 in
theorem c_X5_moves (l : Launch) (D : va_G) (cI cZ cB cJ : ClassId) (A_t : Nat) (A_t_s : Nat) (A_t_aside : Nat) (A_t_snapshot : Nat) (A_t_saved : Nat) (A_t_text : Nat) (A_t_counts : Nat) (A_t_isCut : Nat) (A_t_strength : Nat) (A_t_fails : Nat) (A_t_why : Nat) (A_t_driver : Nat) (A_t_place : Nat) (A_t_isDone : Nat) (V_t_thrown : Int32) (V_t_isKept : Int32) (V_t_savedMany : Int32) (V_t_length : Int32) (V_t_position : Int32) (V_t_isWrong : Int32) (V_t_digested : Int64) (V_t_s : Nat → Int32) (x1 : Int32) (r0 : Int32) (hg : g_X5_moves V_t_s x1 = some r0) : Met l yX5_moves wsX5_moves rX5_moves (PcR D cI cZ cB cJ [(A_t, .inr (5, [.int V_t_thrown, .ref A_t_s, .ref A_t_aside, .ref A_t_snapshot, .int V_t_isKept, .ref A_t_saved, .int V_t_savedMany, .ref A_t_text, .int V_t_length, .ref A_t_counts, .ref A_t_isCut, .ref A_t_strength, .ref A_t_fails, .ref A_t_why, .ref A_t_driver, .ref A_t_place, .ref A_t_isDone, .int V_t_position, .int V_t_isWrong, .long V_t_digested])), (A_t_s, .inl (cI, 77, .inl V_t_s))] [.ref A_t, .int x1]) (vp_Si (fun r' => r' = r0 ∧ bo r0)) 0 0 (fun _ => False) := by
  refine bodyRz (cc := cX5_moves) (maxL := 2) (lv := [(0, .ref A_t), (1, .int x1)]) (by decide) rfl (Nat.le_of_ble_eq_true rfl) rfl ?_
  intro p e s m args below meth c Q hx hb hml hown hts hP hK fin ls hl
  replace hown : s.vm.findClass RX5 = some m.cls := hown
  have S : CallFix p m c cX5_moves 2 s args wsX5_moves RX5 := ⟨hx, hb, hml, hown, hts⟩
  unfold g_X5_moves at hg
  refine lv_aload_n hx hb dX5_moves_0 rfl (lv_at hl 0 rfl) ?_
  refine lv_iload_n hx hb dX5_moves_1 rfl (lv_at hl 1 rfl) ?_
  refine lv_iconst (v := 2) hx hb dX5_moves_2 (by decide) ?_
  obtain ⟨v1, hq, hg⟩ := bind_ex hg
  refine callRVi (As := [.int x1, .int 2]) (rest := []) S hK hP (c_X5_of l D cI cZ cB cJ A_t A_t_s A_t_aside A_t_snapshot A_t_saved A_t_text A_t_counts A_t_isCut A_t_strength A_t_fails A_t_why A_t_driver A_t_place A_t_isDone V_t_thrown V_t_isKept V_t_savedMany V_t_length V_t_position V_t_isWrong V_t_digested V_t_s x1 2 v1 hq) [0, 1] rfl (cwV 2 hts gX5_moves_X5_of rfl rfl rfl hd_X5_of ⟨Nat.le_of_ble_eq_true rfl, Nat.le_of_ble_eq_true rfl⟩) rfl rfl rfl hl.1 rfl (Nat.le_of_ble_eq_true rfl) dX5_moves_3 ⟨Nat.zero_le _, Nat.zero_le _⟩ ?_
  refine lv_iconst (v := 1) hx hb dX5_moves_6 (by decide) ?_
  refine lv_icmp_ne (tgt := 14) hx hb dX5_moves_7 (by decide) (fun hc => ?_) (fun hc => ?_)
  · replace hg := if_no hg hc
    refine lv_iconst (v := 0) hx hb dX5_moves_14 (by decide) ?_
    cases hg
    exact fin _ _ bo_0 dX5_moves_15
  · replace hg := if_yes hg hc
    refine lv_iconst (v := 1) hx hb dX5_moves_10 (by decide) ?_
    refine lv_goto (tgt := 15) hx hb dX5_moves_11 (by decide) ?_
    cases hg
    exact fin _ _ bo_1 dX5_moves_15
theorem hd_X5_movesTo : yX5_movesTo.cls = RX5 ∧ yX5_movesTo.cls ≠ "java/lang/invoke/MethodHandle" ∧ yX5_movesTo.cls ≠ "java/lang/invoke/VarHandle" ∧ (parseMethodDescriptor yX5_movesTo.desc).map (fun d => d.parameters.length) = some 2 := by decide +kernel
abbrev rX5_movesTo : Room := { frames := 3, cells := 0, slots := 0, locals := 64 }
set_option maxHeartbeats 4000000 in
set_option maxRecDepth 100000 in
theorem c_X5_movesTo (l : Launch) (D : va_G) (cI cZ cB cJ : ClassId) (A_t : Nat) (A_t_s : Nat) (A_t_aside : Nat) (A_t_snapshot : Nat) (A_t_saved : Nat) (A_t_text : Nat) (A_t_counts : Nat) (A_t_isCut : Nat) (A_t_strength : Nat) (A_t_fails : Nat) (A_t_why : Nat) (A_t_driver : Nat) (A_t_place : Nat) (A_t_isDone : Nat) (V_t_thrown : Int32) (V_t_isKept : Int32) (V_t_savedMany : Int32) (V_t_length : Int32) (V_t_position : Int32) (V_t_isWrong : Int32) (V_t_digested : Int64) (V_t_s : Nat → Int32) (x1 : Int32) (x2 : Int32) (r0 : Int32) (hg : g_X5_movesTo V_t_s x1 x2 = some r0) : Met l yX5_movesTo wsX5_movesTo rX5_movesTo (PcR D cI cZ cB cJ [(A_t, .inr (5, [.int V_t_thrown, .ref A_t_s, .ref A_t_aside, .ref A_t_snapshot, .int V_t_isKept, .ref A_t_saved, .int V_t_savedMany, .ref A_t_text, .int V_t_length, .ref A_t_counts, .ref A_t_isCut, .ref A_t_strength, .ref A_t_fails, .ref A_t_why, .ref A_t_driver, .ref A_t_place, .ref A_t_isDone, .int V_t_position, .int V_t_isWrong, .long V_t_digested])), (A_t_s, .inl (cI, 77, .inl V_t_s))] [.ref A_t, .int x1, .int x2]) (vp_Si (fun r' => r' = r0 ∧ bo r0)) 0 0 (fun _ => False) := by
  refine bodyRz (cc := cX5_movesTo) (maxL := 3) (lv := [(0, .ref A_t), (1, .int x1), (2, .int x2)]) (by decide) rfl (Nat.le_of_ble_eq_true rfl) rfl ?_
  intro p e s m args below meth c Q hx hb hml hown hts hP hK fin ls hl
  replace hown : s.vm.findClass RX5 = some m.cls := hown
  have S : CallFix p m c cX5_movesTo 3 s args wsX5_movesTo RX5 := ⟨hx, hb, hml, hown, hts⟩
  unfold g_X5_movesTo at hg
  refine lv_aload_n hx hb dX5_movesTo_0 rfl (lv_at hl 0 rfl) ?_
  refine lv_iload_n hx hb dX5_movesTo_1 rfl (lv_at hl 1 rfl) ?_
  obtain ⟨v1, hq, hg⟩ := bind_ex hg
  refine callRVz (As := [.int x1]) (rest := []) S hK hP (c_X5_moves l D cI cZ cB cJ A_t A_t_s A_t_aside A_t_snapshot A_t_saved A_t_text A_t_counts A_t_isCut A_t_strength A_t_fails A_t_why A_t_driver A_t_place A_t_isDone V_t_thrown V_t_isKept V_t_savedMany V_t_length V_t_position V_t_isWrong V_t_digested V_t_s x1 v1 hq) [0, 1] rfl (cwV 1 hts gX5_movesTo_X5_moves rfl rfl rfl hd_X5_moves ⟨Nat.le_of_ble_eq_true rfl, Nat.le_of_ble_eq_true rfl⟩) rfl rfl rfl hl.1 rfl (Nat.le_of_ble_eq_true rfl) dX5_movesTo_2 ⟨Nat.zero_le _, Nat.zero_le _⟩ (fun hz_v1 => ?_)
  refine lv_if_eq (tgt := 22) hx hb dX5_movesTo_5 (by decide) (fun hc => ?_) (fun hc => ?_)
  · replace hg := if_yes hg hc
    refine lv_iconst (v := 0) hx hb dX5_movesTo_22 (by decide) ?_
    cases hg
    exact fin _ _ bo_0 dX5_movesTo_23
  · replace hg := if_no hg hc
    refine lv_aload_n hx hb dX5_movesTo_8 rfl (lv_at hl 0 rfl) ?_
    refine lv_iload_n hx hb dX5_movesTo_9 rfl (lv_at hl 1 rfl) ?_
    refine lv_iconst (v := 3) hx hb dX5_movesTo_10 (by decide) ?_
    obtain ⟨v2, hq, hg⟩ := bind_ex hg
    refine callRVi (As := [.int x1, .int 3]) (rest := []) S hK hP (c_X5_of l D cI cZ cB cJ A_t A_t_s A_t_aside A_t_snapshot A_t_saved A_t_text A_t_counts A_t_isCut A_t_strength A_t_fails A_t_why A_t_driver A_t_place A_t_isDone V_t_thrown V_t_isKept V_t_savedMany V_t_length V_t_position V_t_isWrong V_t_digested V_t_s x1 3 v2 hq) [0, 1] rfl (cwV 2 hts gX5_movesTo_X5_of rfl rfl rfl hd_X5_of ⟨Nat.le_of_ble_eq_true rfl, Nat.le_of_ble_eq_true rfl⟩) rfl rfl rfl hl.1 rfl (Nat.le_of_ble_eq_true rfl) dX5_movesTo_11 ⟨Nat.zero_le _, Nat.zero_le _⟩ ?_
    refine lv_iload_n hx hb dX5_movesTo_14 rfl (lv_at hl 2 rfl) ?_
    refine lv_icmp_ne (tgt := 22) hx hb dX5_movesTo_15 (by decide) (fun hc => ?_) (fun hc => ?_)
    · replace hg := if_no hg hc
      refine lv_iconst (v := 0) hx hb dX5_movesTo_22 (by decide) ?_
      cases hg
      exact fin _ _ bo_0 dX5_movesTo_23
    · replace hg := if_yes hg hc
      refine lv_iconst (v := 1) hx hb dX5_movesTo_18 (by decide) ?_
      refine lv_goto (tgt := 23) hx hb dX5_movesTo_19 (by decide) ?_
      cases hg
      exact fin _ _ bo_1 dX5_movesTo_23
theorem hd_X5_hasObject : yX5_hasObject.cls = RX5 ∧ yX5_hasObject.cls ≠ "java/lang/invoke/MethodHandle" ∧ yX5_hasObject.cls ≠ "java/lang/invoke/VarHandle" ∧ (parseMethodDescriptor yX5_hasObject.desc).map (fun d => d.parameters.length) = some 1 := by decide +kernel
abbrev rX5_hasObject : Room := { frames := 4, cells := 0, slots := 0, locals := 86 }
set_option maxHeartbeats 4000000 in
set_option maxRecDepth 100000 in
theorem c_X5_hasObject (l : Launch) (D : va_G) (cI cZ cB cJ : ClassId) (A_t : Nat) (A_t_s : Nat) (A_t_aside : Nat) (A_t_snapshot : Nat) (A_t_saved : Nat) (A_t_text : Nat) (A_t_counts : Nat) (A_t_isCut : Nat) (A_t_strength : Nat) (A_t_fails : Nat) (A_t_why : Nat) (A_t_driver : Nat) (A_t_place : Nat) (A_t_isDone : Nat) (V_t_thrown : Int32) (V_t_isKept : Int32) (V_t_savedMany : Int32) (V_t_length : Int32) (V_t_position : Int32) (V_t_isWrong : Int32) (V_t_digested : Int64) (V_t_s : Nat → Int32) (x1 : Int32) (r0 : Int32) (hg : g_X5_hasObject V_t_s x1 = some r0) : Met l yX5_hasObject wsX5_hasObject rX5_hasObject (PcR D cI cZ cB cJ [(A_t, .inr (5, [.int V_t_thrown, .ref A_t_s, .ref A_t_aside, .ref A_t_snapshot, .int V_t_isKept, .ref A_t_saved, .int V_t_savedMany, .ref A_t_text, .int V_t_length, .ref A_t_counts, .ref A_t_isCut, .ref A_t_strength, .ref A_t_fails, .ref A_t_why, .ref A_t_driver, .ref A_t_place, .ref A_t_isDone, .int V_t_position, .int V_t_isWrong, .long V_t_digested])), (A_t_s, .inl (cI, 77, .inl V_t_s))] [.ref A_t, .int x1]) (vp_Si (fun r' => r' = r0 ∧ bo r0)) 0 0 (fun _ => False) := by
  refine bodyRz (cc := cX5_hasObject) (maxL := 3) (lv := [(0, .ref A_t), (1, .int x1)]) (by decide) rfl (Nat.le_of_ble_eq_true rfl) rfl ?_
  intro p e s m args below meth c Q hx hb hml hown hts hP hK fin ls hl
  replace hown : s.vm.findClass RX5 = some m.cls := hown
  have S : CallFix p m c cX5_hasObject 3 s args wsX5_hasObject RX5 := ⟨hx, hb, hml, hown, hts⟩
  unfold g_X5_hasObject at hg
  refine lv_aload_n hx hb dX5_hasObject_0 rfl (lv_at hl 0 rfl) ?_
  refine lv_aload_n hx hb dX5_hasObject_1 rfl (lv_at hl 0 rfl) ?_
  refine lv_iload_n hx hb dX5_hasObject_2 rfl (lv_at hl 1 rfl) ?_
  refine lv_iconst (v := 4) hx hb dX5_hasObject_3 (by decide) ?_
  obtain ⟨v1, hq, hg⟩ := bind_ex hg
  refine callRVi (As := [.int x1, .int 4]) (rest := [.ref A_t]) S hK hP (c_X5_of l D cI cZ cB cJ A_t A_t_s A_t_aside A_t_snapshot A_t_saved A_t_text A_t_counts A_t_isCut A_t_strength A_t_fails A_t_why A_t_driver A_t_place A_t_isDone V_t_thrown V_t_isKept V_t_savedMany V_t_length V_t_position V_t_isWrong V_t_digested V_t_s x1 4 v1 hq) [0, 1] rfl (cwV 2 hts gX5_hasObject_X5_of rfl rfl rfl hd_X5_of ⟨Nat.le_of_ble_eq_true rfl, Nat.le_of_ble_eq_true rfl⟩) rfl rfl rfl hl.1 rfl (Nat.le_of_ble_eq_true rfl) dX5_hasObject_4 ⟨Nat.zero_le _, Nat.zero_le _⟩ ?_
  obtain ⟨v2, hq, hg⟩ := bind_ex hg
  refine callRVi (As := [.int v1]) (rest := []) S hK hP (c_X5_armyOn l D cI cZ cB cJ A_t A_t_s A_t_aside A_t_snapshot A_t_saved A_t_text A_t_counts A_t_isCut A_t_strength A_t_fails A_t_why A_t_driver A_t_place A_t_isDone V_t_thrown V_t_isKept V_t_savedMany V_t_length V_t_position V_t_isWrong V_t_digested V_t_s v1 v2 hq) [0, 1] rfl (cwV 1 hts gX5_hasObject_X5_armyOn rfl rfl rfl hd_X5_armyOn ⟨Nat.le_of_ble_eq_true rfl, Nat.le_of_ble_eq_true rfl⟩) rfl rfl rfl hl.1 rfl (Nat.le_of_ble_eq_true rfl) dX5_hasObject_7 ⟨Nat.zero_le _, Nat.zero_le _⟩ ?_
  refine lv_istore_n (lv' := [(2, .int v2), (0, .ref A_t), (1, .int x1)]) hx hb dX5_hasObject_10 rfl hl (by decide) rfl (fun ls hl => ?_)
  refine lv_aload_n hx hb dX5_hasObject_11 rfl (lv_at hl 1 rfl) ?_
  refine lv_iload_n hx hb dX5_hasObject_12 rfl (lv_at hl 2 rfl) ?_
  refine lv_iconst (v := 2) hx hb dX5_hasObject_13 (by decide) ?_
  obtain ⟨v3, hq, hg⟩ := bind_ex hg
  refine callRVi (As := [.int x1, .int 2]) (rest := []) S hK hP (c_X5_of l D cI cZ cB cJ A_t A_t_s A_t_aside A_t_snapshot A_t_saved A_t_text A_t_counts A_t_isCut A_t_strength A_t_fails A_t_why A_t_driver A_t_place A_t_isDone V_t_thrown V_t_isKept V_t_savedMany V_t_length V_t_position V_t_isWrong V_t_digested V_t_s x1 2 v3 hq) [0, 1] rfl (cwV 2 hts gX5_hasObject_X5_of rfl rfl rfl hd_X5_of ⟨Nat.le_of_ble_eq_true rfl, Nat.le_of_ble_eq_true rfl⟩) rfl rfl rfl hl.1 rfl (Nat.le_of_ble_eq_true rfl) dX5_hasObject_14 ⟨Nat.zero_le _, Nat.zero_le _⟩ ?_
  refine lv_iconst (v := 2) hx hb dX5_hasObject_17 (by decide) ?_
  refine lv_icmp_ne (tgt := 31) hx hb dX5_hasObject_18 (by decide) (fun hc => ?_) (fun hc => ?_)
  · replace hg := if_no hg hc
    refine lv_iconst (v := 0) hx hb dX5_hasObject_31 (by decide) ?_
    cases hg
    exact fin _ _ bo_0 dX5_hasObject_32
  · replace hg := if_yes hg hc
    refine lv_iload_n hx hb dX5_hasObject_21 rfl (lv_at hl 0 rfl) ?_
    refine lv_iconst (v := (-1)) hx hb dX5_hasObject_22 (by decide) ?_
    refine lv_icmp_eq (tgt := 31) hx hb dX5_hasObject_23 (by decide) (fun hc => ?_) (fun hc => ?_)
    · replace hg := if_yes hg hc
      refine lv_iconst (v := 0) hx hb dX5_hasObject_31 (by decide) ?_
      cases hg
      exact fin _ _ bo_0 dX5_hasObject_32
    · replace hg := if_no hg hc
      refine lv_iload_n hx hb dX5_hasObject_26 rfl (lv_at hl 0 rfl) ?_
      refine lv_iload_n hx hb dX5_hasObject_27 rfl (lv_at hl 2 rfl) ?_
      refine lv_icmp_ne (tgt := 33) hx hb dX5_hasObject_28 (by decide) (fun hc => ?_) (fun hc => ?_)
      · replace hg := if_no hg hc
        refine lv_aload_n hx hb dX5_hasObject_33 rfl (lv_at hl 1 rfl) ?_
        refine lv_iload_n hx hb dX5_hasObject_34 rfl (lv_at hl 2 rfl) ?_
        refine lv_iconst (v := 4) hx hb dX5_hasObject_35 (by decide) ?_
        obtain ⟨v4, hq, hg⟩ := bind_ex hg
        refine callRVi (As := [.int x1, .int 4]) (rest := []) S hK hP (c_X5_of l D cI cZ cB cJ A_t A_t_s A_t_aside A_t_snapshot A_t_saved A_t_text A_t_counts A_t_isCut A_t_strength A_t_fails A_t_why A_t_driver A_t_place A_t_isDone V_t_thrown V_t_isKept V_t_savedMany V_t_length V_t_position V_t_isWrong V_t_digested V_t_s x1 4 v4 hq) [0, 1] rfl (cwV 2 hts gX5_hasObject_X5_of rfl rfl rfl hd_X5_of ⟨Nat.le_of_ble_eq_true rfl, Nat.le_of_ble_eq_true rfl⟩) rfl rfl rfl hl.1 rfl (Nat.le_of_ble_eq_true rfl) dX5_hasObject_36 ⟨Nat.zero_le _, Nat.zero_le _⟩ ?_
        refine lv_aload_n hx hb dX5_hasObject_39 rfl (lv_at hl 1 rfl) ?_
        refine lv_iload_n hx hb dX5_hasObject_40 rfl (lv_at hl 2 rfl) ?_
        refine lv_iconst (v := 3) hx hb dX5_hasObject_41 (by decide) ?_
        obtain ⟨v5, hq, hg⟩ := bind_ex hg
        refine callRVi (As := [.int x1, .int 3]) (rest := [.int v4]) S hK hP (c_X5_of l D cI cZ cB cJ A_t A_t_s A_t_aside A_t_snapshot A_t_saved A_t_text A_t_counts A_t_isCut A_t_strength A_t_fails A_t_why A_t_driver A_t_place A_t_isDone V_t_thrown V_t_isKept V_t_savedMany V_t_length V_t_position V_t_isWrong V_t_digested V_t_s x1 3 v5 hq) [0, 1] rfl (cwV 2 hts gX5_hasObject_X5_of rfl rfl rfl hd_X5_of ⟨Nat.le_of_ble_eq_true rfl, Nat.le_of_ble_eq_true rfl⟩) rfl rfl rfl hl.1 rfl (Nat.le_of_ble_eq_true rfl) dX5_hasObject_42 ⟨Nat.zero_le _, Nat.zero_le _⟩ ?_
        refine lv_icmp_ne (tgt := 64) hx hb dX5_hasObject_45 (by decide) (fun hc => ?_) (fun hc => ?_)
        · replace hg := if_no hg hc
          refine lv_aload_n hx hb dX5_hasObject_64 rfl (lv_at hl 1 rfl) ?_
          refine lv_iload_n hx hb dX5_hasObject_65 rfl (lv_at hl 0 rfl) ?_
          refine lv_aload_n hx hb dX5_hasObject_66 rfl (lv_at hl 1 rfl) ?_
          refine lv_iload_n hx hb dX5_hasObject_67 rfl (lv_at hl 2 rfl) ?_
          refine lv_iconst (v := 3) hx hb dX5_hasObject_68 (by decide) ?_
          obtain ⟨v6, hq, hg⟩ := bind_ex hg
          refine callRVi (As := [.int x1, .int 3]) (rest := [.int v2, .ref A_t]) S hK hP (c_X5_of l D cI cZ cB cJ A_t A_t_s A_t_aside A_t_snapshot A_t_saved A_t_text A_t_counts A_t_isCut A_t_strength A_t_fails A_t_why A_t_driver A_t_place A_t_isDone V_t_thrown V_t_isKept V_t_savedMany V_t_length V_t_position V_t_isWrong V_t_digested V_t_s x1 3 v6 hq) [0, 1] rfl (cwV 2 hts gX5_hasObject_X5_of rfl rfl rfl hd_X5_of ⟨Nat.le_of_ble_eq_true rfl, Nat.le_of_ble_eq_true rfl⟩) rfl rfl rfl hl.1 rfl (Nat.le_of_ble_eq_true rfl) dX5_hasObject_69 ⟨Nat.zero_le _, Nat.zero_le _⟩ ?_
          obtain ⟨v7, hq, hg⟩ := bind_ex hg
          refine callRVz (As := [.int v2, .int v6]) (rest := []) S hK hP (c_X5_movesTo l D cI cZ cB cJ A_t A_t_s A_t_aside A_t_snapshot A_t_saved A_t_text A_t_counts A_t_isCut A_t_strength A_t_fails A_t_why A_t_driver A_t_place A_t_isDone V_t_thrown V_t_isKept V_t_savedMany V_t_length V_t_position V_t_isWrong V_t_digested V_t_s v2 v6 v7 hq) [0, 1] rfl (cwV 2 hts gX5_hasObject_X5_movesTo rfl rfl rfl hd_X5_movesTo ⟨Nat.le_of_ble_eq_true rfl, Nat.le_of_ble_eq_true rfl⟩) rfl rfl rfl hl.1 rfl (Nat.le_of_ble_eq_true rfl) dX5_hasObject_72 ⟨Nat.zero_le _, Nat.zero_le _⟩ (fun hz_v7 => ?_)
          cases hg
          exact fin _ _ hz_v7 dX5_hasObject_75
        · replace hg := if_yes hg hc
          refine lv_aload_n hx hb dX5_hasObject_48 rfl (lv_at hl 1 rfl) ?_
          refine lv_iload_n hx hb dX5_hasObject_49 rfl (lv_at hl 0 rfl) ?_
          obtain ⟨v8, hq, hg⟩ := bind_ex hg
          refine callRVz (As := [.int v2]) (rest := []) S hK hP (c_X5_moves l D cI cZ cB cJ A_t A_t_s A_t_aside A_t_snapshot A_t_saved A_t_text A_t_counts A_t_isCut A_t_strength A_t_fails A_t_why A_t_driver A_t_place A_t_isDone V_t_thrown V_t_isKept V_t_savedMany V_t_length V_t_position V_t_isWrong V_t_digested V_t_s v2 v8 hq) [0, 1] rfl (cwV 1 hts gX5_hasObject_X5_moves rfl rfl rfl hd_X5_moves ⟨Nat.le_of_ble_eq_true rfl, Nat.le_of_ble_eq_true rfl⟩) rfl rfl rfl hl.1 rfl (Nat.le_of_ble_eq_true rfl) dX5_hasObject_50 ⟨Nat.zero_le _, Nat.zero_le _⟩ (fun hz_v8 => ?_)
          refine lv_if_ne (tgt := 60) hx hb dX5_hasObject_53 (by decide) (fun hc => ?_) (fun hc => ?_)
          · replace hg := if_no hg hc
            refine lv_iconst (v := 0) hx hb dX5_hasObject_60 (by decide) ?_
            refine lv_goto (tgt := 75) hx hb dX5_hasObject_61 (by decide) ?_
            cases hg
            exact fin _ _ bo_0 dX5_hasObject_75
          · replace hg := if_yes hg hc
            refine lv_iconst (v := 1) hx hb dX5_hasObject_56 (by decide) ?_
            refine lv_goto (tgt := 75) hx hb dX5_hasObject_57 (by decide) ?_
            cases hg
            exact fin _ _ bo_1 dX5_hasObject_75
      · replace hg := if_yes hg hc
        refine lv_iconst (v := 0) hx hb dX5_hasObject_31 (by decide) ?_
        cases hg
        exact fin _ _ bo_0 dX5_hasObject_32
theorem hd_X5_isAttacked : yX5_isAttacked.cls = RX5 ∧ yX5_isAttacked.cls ≠ "java/lang/invoke/MethodHandle" ∧ yX5_isAttacked.cls ≠ "java/lang/invoke/VarHandle" ∧ (parseMethodDescriptor yX5_isAttacked.desc).map (fun d => d.parameters.length) = some 1 := by decide +kernel
theorem in_X5_isAttacked_X5 : ∀ w ∈ u_ws RX5 TX5 20, w ∈ wsX5_isAttacked := fun _ h => List.mem_cons_of_mem _ (List.mem_append_right _ h)
theorem wd_X5_isAttacked_1 : Cond.fieldLink RX5 7 "FogOrdersModel" "s" "[I" ∈ wsX5_isAttacked := List.mem_of_getElem? (i := 1) rfl
abbrev rX5_isAttacked : Room := { frames := 4, cells := 0, slots := 0, locals := 86 }
set_option maxHeartbeats 4000000 in
set_option maxRecDepth 100000 in
theorem c_X5_isAttacked (l : Launch) (D : va_G) (cI cZ cB cJ : ClassId) (A_t : Nat) (A_t_s : Nat) (A_t_aside : Nat) (A_t_snapshot : Nat) (A_t_saved : Nat) (A_t_text : Nat) (A_t_counts : Nat) (A_t_isCut : Nat) (A_t_strength : Nat) (A_t_fails : Nat) (A_t_why : Nat) (A_t_driver : Nat) (A_t_place : Nat) (A_t_isDone : Nat) (V_t_thrown : Int32) (V_t_isKept : Int32) (V_t_savedMany : Int32) (V_t_length : Int32) (V_t_position : Int32) (V_t_isWrong : Int32) (V_t_digested : Int64) (V_t_s : Nat → Int32) (x1 : Int32) (r0 : Int32) (hg : g_X5_isAttacked V_t_s x1 = some r0) : Met l yX5_isAttacked wsX5_isAttacked rX5_isAttacked (PcR D cI cZ cB cJ [(A_t, .inr (5, [.int V_t_thrown, .ref A_t_s, .ref A_t_aside, .ref A_t_snapshot, .int V_t_isKept, .ref A_t_saved, .int V_t_savedMany, .ref A_t_text, .int V_t_length, .ref A_t_counts, .ref A_t_isCut, .ref A_t_strength, .ref A_t_fails, .ref A_t_why, .ref A_t_driver, .ref A_t_place, .ref A_t_isDone, .int V_t_position, .int V_t_isWrong, .long V_t_digested])), (A_t_s, .inl (cI, 77, .inl V_t_s))] [.ref A_t, .int x1]) (vp_Si (fun r' => r' = r0 ∧ bo r0)) 0 0 (fun _ => False) := by
  refine bodyRz (cc := cX5_isAttacked) (maxL := 4) (lv := [(0, .ref A_t), (1, .int x1)]) (by decide) rfl (Nat.le_of_ble_eq_true rfl) rfl ?_
  intro p e s m args below meth c Q hx hb hml hown hts hP hK fin ls hl
  replace hown : s.vm.findClass RX5 = some m.cls := hown
  have S : CallFix p m c cX5_isAttacked 4 s args wsX5_isAttacked RX5 := ⟨hx, hb, hml, hown, hts⟩
  unfold g_X5_isAttacked at hg
  refine lv_iconst (v := 0) hx hb dX5_isAttacked_0 (by decide) ?_
  refine lv_istore_n (lv' := [(2, .int 0), (0, .ref A_t), (1, .int x1)]) hx hb dX5_isAttacked_1 rfl hl (by decide) rfl (fun ls hl => ?_)
  refine lv_iconst (v := 0) hx hb dX5_isAttacked_2 (by decide) ?_
  refine lv_istore_n (lv' := [(3, .int 0), (2, .int 0), (0, .ref A_t), (1, .int x1)]) hx hb dX5_isAttacked_3 rfl hl (by decide) rfl (fun ls hl => ?_)
  obtain ⟨v10, hL, hg⟩ := bind_ex hg
  have kx : bo v10 → ∀ ls : Array Slot, lv_has ls 4 [(2, .int v10)] → W p l e rX5_isAttacked s m args below meth c s.heap [] 0 0 Q (F0 m 75 ls []) := by
    intro hz_v10 ls hl
    refine lv_iload_n hx hb dX5_isAttacked_75 rfl (lv_at hl 0 rfl) ?_
    cases hg
    exact fin _ _ hz_v10 dX5_isAttacked_76
  have L : ∀ (nf : Nat) (v1 : Int32) (v2 : Int32), bo v1 → ∀ ls : Array Slot, lv_has ls 4 [(3, .int v2), (2, .int v1), (0, .ref A_t), (1, .int x1)] → g_X5_isAttacked_L1 V_t_s x1 nf v1 v2 = some v10 → W p l e rX5_isAttacked s m args below meth c s.heap [] 0 0 Q (F0 m 4 ls []) := by
    intro nf
    induction nf with
    | zero =>
      intro v1 v2 hz_v1 ls hl hg
      exact no_some hg
    | succ nf ih =>
      intro v1 v2 hz_v1 ls hl hg
      rw [g_X5_isAttacked_L1] at hg
      refine lv_iload_n hx hb dX5_isAttacked_4 rfl (lv_at hl 0 rfl) ?_
      refine lv_aload_n hx hb dX5_isAttacked_5 rfl (lv_at hl 2 rfl) ?_
      refine xget (ci := 5) (C := RX5) (T := TX5) (N := 20) (v := .ref A_t_s) hx hb hts in_X5_isAttacked_X5 hown hK hP 0 rfl rfl 1 (by decide) wd_X5_isAttacked_1 rfl dX5_isAttacked_6 ?_
      refine lv_bipush (v := 9) hx hb dX5_isAttacked_9 (by decide) ?_
      obtain ⟨v3, hin, hv, hg⟩ := rdA_ex hg
      refine xiald hx hb hK hP 1 rfl hin hv dX5_isAttacked_11 ?_
      refine lv_icmp_ge (tgt := 75) hx hb dX5_isAttacked_12 (by decide) (fun hc => ?_) (fun hc => ?_)
      · replace hg := if_yes hg hc
        cases hg
        exact kx hz_v1 _ (lv_sub hl [1] rfl)
      · replace hg := if_no hg hc
        refine lv_iload_n hx hb dX5_isAttacked_15 rfl (lv_at hl 1 rfl) ?_
        refine lv_if_ne (tgt := 63) hx hb dX5_isAttacked_16 (by decide) (fun hc => ?_) (fun hc => ?_)
        · replace hg := if_no hg hc
          refine lv_iconst (v := 1) hx hb dX5_isAttacked_63 (by decide) ?_
          refine lv_goto (tgt := 68) hx hb dX5_isAttacked_64 (by decide) ?_
          refine lv_istore_n (lv' := [(2, .int 1), (3, .int v2), (0, .ref A_t), (1, .int x1)]) hx hb dX5_isAttacked_68 rfl hl (by decide) rfl (fun ls hl => ?_)
          refine lv_iinc (v := (v2 + 1)) (lv' := [(3, .int (v2 + 1)), (2, .int 1), (0, .ref A_t), (1, .int x1)]) hx hb dX5_isAttacked_69 hl (k := 1) rfl rfl (by decide) rfl (fun ls hl => ?_)
          refine lv_goto (tgt := 4) hx hb dX5_isAttacked_72 (by decide) ?_
          exact ih _ _ bo_1 _ (lv_sub hl [0, 1, 2, 3] rfl) hg
        · replace hg := if_yes hg hc
          refine lv_aload_n hx hb dX5_isAttacked_19 rfl (lv_at hl 2 rfl) ?_
          refine lv_iload_n hx hb dX5_isAttacked_20 rfl (lv_at hl 0 rfl) ?_
          refine lv_iconst (v := 0) hx hb dX5_isAttacked_21 (by decide) ?_
          obtain ⟨v4, hq, hg⟩ := bind_ex hg
          refine callRVi (As := [.int v2, .int 0]) (rest := []) S hK hP (c_X5_of l D cI cZ cB cJ A_t A_t_s A_t_aside A_t_snapshot A_t_saved A_t_text A_t_counts A_t_isCut A_t_strength A_t_fails A_t_why A_t_driver A_t_place A_t_isDone V_t_thrown V_t_isKept V_t_savedMany V_t_length V_t_position V_t_isWrong V_t_digested V_t_s v2 0 v4 hq) [0, 1] rfl (cwV 2 hts gX5_isAttacked_X5_of rfl rfl rfl hd_X5_of ⟨Nat.le_of_ble_eq_true rfl, Nat.le_of_ble_eq_true rfl⟩) rfl rfl rfl hl.1 rfl (Nat.le_of_ble_eq_true rfl) dX5_isAttacked_22 ⟨Nat.zero_le _, Nat.zero_le _⟩ ?_
          refine lv_aload_n hx hb dX5_isAttacked_25 rfl (lv_at hl 2 rfl) ?_
          refine lv_iload_n hx hb dX5_isAttacked_26 rfl (lv_at hl 3 rfl) ?_
          refine lv_iconst (v := 0) hx hb dX5_isAttacked_27 (by decide) ?_
          obtain ⟨v5, hq, hg⟩ := bind_ex hg
          refine callRVi (As := [.int x1, .int 0]) (rest := [.int v4]) S hK hP (c_X5_of l D cI cZ cB cJ A_t A_t_s A_t_aside A_t_snapshot A_t_saved A_t_text A_t_counts A_t_isCut A_t_strength A_t_fails A_t_why A_t_driver A_t_place A_t_isDone V_t_thrown V_t_isKept V_t_savedMany V_t_length V_t_position V_t_isWrong V_t_digested V_t_s x1 0 v5 hq) [0, 1] rfl (cwV 2 hts gX5_isAttacked_X5_of rfl rfl rfl hd_X5_of ⟨Nat.le_of_ble_eq_true rfl, Nat.le_of_ble_eq_true rfl⟩) rfl rfl rfl hl.1 rfl (Nat.le_of_ble_eq_true rfl) dX5_isAttacked_28 ⟨Nat.zero_le _, Nat.zero_le _⟩ ?_
          refine lv_icmp_eq (tgt := 67) hx hb dX5_isAttacked_31 (by decide) (fun hc => ?_) (fun hc => ?_)
          · replace hg := if_yes hg hc
            refine lv_iconst (v := 0) hx hb dX5_isAttacked_67 (by decide) ?_
            refine lv_istore_n (lv' := [(2, .int 0), (3, .int v2), (0, .ref A_t), (1, .int x1)]) hx hb dX5_isAttacked_68 rfl hl (by decide) rfl (fun ls hl => ?_)
            refine lv_iinc (v := (v2 + 1)) (lv' := [(3, .int (v2 + 1)), (2, .int 0), (0, .ref A_t), (1, .int x1)]) hx hb dX5_isAttacked_69 hl (k := 1) rfl rfl (by decide) rfl (fun ls hl => ?_)
            refine lv_goto (tgt := 4) hx hb dX5_isAttacked_72 (by decide) ?_
            exact ih _ _ bo_0 _ (lv_sub hl [0, 1, 2, 3] rfl) hg
          · replace hg := if_no hg hc
            refine lv_aload_n hx hb dX5_isAttacked_34 rfl (lv_at hl 2 rfl) ?_
            refine lv_iload_n hx hb dX5_isAttacked_35 rfl (lv_at hl 0 rfl) ?_
            refine lv_aload_n hx hb dX5_isAttacked_36 rfl (lv_at hl 2 rfl) ?_
            refine lv_iload_n hx hb dX5_isAttacked_37 rfl (lv_at hl 3 rfl) ?_
            refine lv_iconst (v := 1) hx hb dX5_isAttacked_38 (by decide) ?_
            obtain ⟨v6, hq, hg⟩ := bind_ex hg
            refine callRVi (As := [.int x1, .int 1]) (rest := [.int v2, .ref A_t]) S hK hP (c_X5_of l D cI cZ cB cJ A_t A_t_s A_t_aside A_t_snapshot A_t_saved A_t_text A_t_counts A_t_isCut A_t_strength A_t_fails A_t_why A_t_driver A_t_place A_t_isDone V_t_thrown V_t_isKept V_t_savedMany V_t_length V_t_position V_t_isWrong V_t_digested V_t_s x1 1 v6 hq) [0, 1] rfl (cwV 2 hts gX5_isAttacked_X5_of rfl rfl rfl hd_X5_of ⟨Nat.le_of_ble_eq_true rfl, Nat.le_of_ble_eq_true rfl⟩) rfl rfl rfl hl.1 rfl (Nat.le_of_ble_eq_true rfl) dX5_isAttacked_39 ⟨Nat.zero_le _, Nat.zero_le _⟩ ?_
            obtain ⟨v7, hq, hg⟩ := bind_ex hg
            refine callRVz (As := [.int v2, .int v6]) (rest := []) S hK hP (c_X5_movesTo l D cI cZ cB cJ A_t A_t_s A_t_aside A_t_snapshot A_t_saved A_t_text A_t_counts A_t_isCut A_t_strength A_t_fails A_t_why A_t_driver A_t_place A_t_isDone V_t_thrown V_t_isKept V_t_savedMany V_t_length V_t_position V_t_isWrong V_t_digested V_t_s v2 v6 v7 hq) [0, 1] rfl (cwV 2 hts gX5_isAttacked_X5_movesTo rfl rfl rfl hd_X5_movesTo ⟨Nat.le_of_ble_eq_true rfl, Nat.le_of_ble_eq_true rfl⟩) rfl rfl rfl hl.1 rfl (Nat.le_of_ble_eq_true rfl) dX5_isAttacked_42 ⟨Nat.zero_le _, Nat.zero_le _⟩ (fun hz_v7 => ?_)
            refine lv_if_eq (tgt := 67) hx hb dX5_isAttacked_45 (by decide) (fun hc => ?_) (fun hc => ?_)
            · replace hg := if_yes hg hc
              refine lv_iconst (v := 0) hx hb dX5_isAttacked_67 (by decide) ?_
              refine lv_istore_n (lv' := [(2, .int 0), (3, .int v2), (0, .ref A_t), (1, .int x1)]) hx hb dX5_isAttacked_68 rfl hl (by decide) rfl (fun ls hl => ?_)
              refine lv_iinc (v := (v2 + 1)) (lv' := [(3, .int (v2 + 1)), (2, .int 0), (0, .ref A_t), (1, .int x1)]) hx hb dX5_isAttacked_69 hl (k := 1) rfl rfl (by decide) rfl (fun ls hl => ?_)
              refine lv_goto (tgt := 4) hx hb dX5_isAttacked_72 (by decide) ?_
              exact ih _ _ bo_0 _ (lv_sub hl [0, 1, 2, 3] rfl) hg
            · replace hg := if_no hg hc
              refine lv_aload_n hx hb dX5_isAttacked_48 rfl (lv_at hl 2 rfl) ?_
              refine lv_iload_n hx hb dX5_isAttacked_49 rfl (lv_at hl 0 rfl) ?_
              refine lv_iconst (v := 1) hx hb dX5_isAttacked_50 (by decide) ?_
              obtain ⟨v8, hq, hg⟩ := bind_ex hg
              refine callRVi (As := [.int v2, .int 1]) (rest := []) S hK hP (c_X5_of l D cI cZ cB cJ A_t A_t_s A_t_aside A_t_snapshot A_t_saved A_t_text A_t_counts A_t_isCut A_t_strength A_t_fails A_t_why A_t_driver A_t_place A_t_isDone V_t_thrown V_t_isKept V_t_savedMany V_t_length V_t_position V_t_isWrong V_t_digested V_t_s v2 1 v8 hq) [0, 1] rfl (cwV 2 hts gX5_isAttacked_X5_of rfl rfl rfl hd_X5_of ⟨Nat.le_of_ble_eq_true rfl, Nat.le_of_ble_eq_true rfl⟩) rfl rfl rfl hl.1 rfl (Nat.le_of_ble_eq_true rfl) dX5_isAttacked_51 ⟨Nat.zero_le _, Nat.zero_le _⟩ ?_
              refine lv_aload_n hx hb dX5_isAttacked_54 rfl (lv_at hl 2 rfl) ?_
              refine lv_iload_n hx hb dX5_isAttacked_55 rfl (lv_at hl 3 rfl) ?_
              refine lv_iconst (v := 3) hx hb dX5_isAttacked_56 (by decide) ?_
              obtain ⟨v9, hq, hg⟩ := bind_ex hg
              refine callRVi (As := [.int x1, .int 3]) (rest := [.int v8]) S hK hP (c_X5_of l D cI cZ cB cJ A_t A_t_s A_t_aside A_t_snapshot A_t_saved A_t_text A_t_counts A_t_isCut A_t_strength A_t_fails A_t_why A_t_driver A_t_place A_t_isDone V_t_thrown V_t_isKept V_t_savedMany V_t_length V_t_position V_t_isWrong V_t_digested V_t_s x1 3 v9 hq) [0, 1] rfl (cwV 2 hts gX5_isAttacked_X5_of rfl rfl rfl hd_X5_of ⟨Nat.le_of_ble_eq_true rfl, Nat.le_of_ble_eq_true rfl⟩) rfl rfl rfl hl.1 rfl (Nat.le_of_ble_eq_true rfl) dX5_isAttacked_57 ⟨Nat.zero_le _, Nat.zero_le _⟩ ?_
              refine lv_icmp_eq (tgt := 67) hx hb dX5_isAttacked_60 (by decide) (fun hc => ?_) (fun hc => ?_)
              · replace hg := if_yes hg hc
                refine lv_iconst (v := 0) hx hb dX5_isAttacked_67 (by decide) ?_
                refine lv_istore_n (lv' := [(2, .int 0), (3, .int v2), (0, .ref A_t), (1, .int x1)]) hx hb dX5_isAttacked_68 rfl hl (by decide) rfl (fun ls hl => ?_)
                refine lv_iinc (v := (v2 + 1)) (lv' := [(3, .int (v2 + 1)), (2, .int 0), (0, .ref A_t), (1, .int x1)]) hx hb dX5_isAttacked_69 hl (k := 1) rfl rfl (by decide) rfl (fun ls hl => ?_)
                refine lv_goto (tgt := 4) hx hb dX5_isAttacked_72 (by decide) ?_
                exact ih _ _ bo_0 _ (lv_sub hl [0, 1, 2, 3] rfl) hg
              · replace hg := if_no hg hc
                refine lv_iconst (v := 1) hx hb dX5_isAttacked_63 (by decide) ?_
                refine lv_goto (tgt := 68) hx hb dX5_isAttacked_64 (by decide) ?_
                refine lv_istore_n (lv' := [(2, .int 1), (3, .int v2), (0, .ref A_t), (1, .int x1)]) hx hb dX5_isAttacked_68 rfl hl (by decide) rfl (fun ls hl => ?_)
                refine lv_iinc (v := (v2 + 1)) (lv' := [(3, .int (v2 + 1)), (2, .int 1), (0, .ref A_t), (1, .int x1)]) hx hb dX5_isAttacked_69 hl (k := 1) rfl rfl (by decide) rfl (fun ls hl => ?_)
                refine lv_goto (tgt := 4) hx hb dX5_isAttacked_72 (by decide) ?_
                exact ih _ _ bo_1 _ (lv_sub hl [0, 1, 2, 3] rfl) hg
  exact L FU _ _ bo_0 _ (lv_sub hl [0, 1, 2, 3] rfl) hL
theorem hd_X5_layStrengths : yX5_layStrengths.cls = RX5 ∧ yX5_layStrengths.cls ≠ "java/lang/invoke/MethodHandle" ∧ yX5_layStrengths.cls ≠ "java/lang/invoke/VarHandle" ∧ (parseMethodDescriptor yX5_layStrengths.desc).map (fun d => d.parameters.length) = some 0 := by decide +kernel
theorem in_X5_layStrengths_X5 : ∀ w ∈ u_ws RX5 TX5 20, w ∈ wsX5_layStrengths := fun _ h => List.mem_cons_of_mem _ (List.mem_append_right _ h)
theorem wd_X5_layStrengths_1 : Cond.fieldLink RX5 7 "FogOrdersModel" "s" "[I" ∈ wsX5_layStrengths := List.mem_of_getElem? (i := 1) rfl
theorem wd_X5_layStrengths_3 : Cond.fieldLink RX5 25 "FogOrdersModel" "counts" "[Z" ∈ wsX5_layStrengths := List.mem_of_getElem? (i := 3) rfl
theorem wd_X5_layStrengths_4 : Cond.fieldLink RX5 32 "FogOrdersModel" "strength" "[I" ∈ wsX5_layStrengths := List.mem_of_getElem? (i := 4) rfl
theorem wd_X5_layStrengths_2 : Cond.fieldLink RX5 29 "FogOrdersModel" "isCut" "[Z" ∈ wsX5_layStrengths := List.mem_of_getElem? (i := 2) rfl
theorem wd_X5_layStrengths_5 : Cond.fieldLink RX5 35 "FogOrdersModel" "fails" "[Z" ∈ wsX5_layStrengths := List.mem_of_getElem? (i := 5) rfl
theorem wd_X5_layStrengths_6 : Cond.fieldLink RX5 41 "FogOrdersModel" "driver" "[I" ∈ wsX5_layStrengths := List.mem_of_getElem? (i := 6) rfl
theorem wd_X5_layStrengths_7 : Cond.fieldLink RX5 38 "FogOrdersModel" "why" "[I" ∈ wsX5_layStrengths := List.mem_of_getElem? (i := 7) rfl
theorem wd_X5_layStrengths_8 : Cond.fieldLink RX5 47 "FogOrdersModel" "isDone" "[Z" ∈ wsX5_layStrengths := List.mem_of_getElem? (i := 8) rfl
abbrev rX5_layStrengths : Room := { frames := 5, cells := 0, slots := 0, locals := 109 }
set_option maxHeartbeats 4000000 in
set_option maxRecDepth 100000 in
theorem c_X5_layStrengths (l : Launch) (D : va_G) (cI cZ cB cJ : ClassId) (A_t : Nat) (A_t_s : Nat) (A_t_aside : Nat) (A_t_snapshot : Nat) (A_t_saved : Nat) (A_t_text : Nat) (A_t_counts : Nat) (A_t_isCut : Nat) (A_t_strength : Nat) (A_t_fails : Nat) (A_t_why : Nat) (A_t_driver : Nat) (A_t_place : Nat) (A_t_isDone : Nat) (sz : Nat) (V_t_thrown : Int32) (V_t_isKept : Int32) (V_t_savedMany : Int32) (V_t_length : Int32) (V_t_position : Int32) (V_t_isWrong : Int32) (V_t_digested : Int64) (V_t_s : Nat → Int32) (V_t_isCut : Nat → Int32) (V_t_counts : Nat → Int32) (V_t_strength : Nat → Int32) (V_t_fails : Nat → Int32) (V_t_driver : Nat → Int32) (V_t_why : Nat → Int32) (V_t_isDone : Nat → Int32) (w1 : Nat → Int32) (w2 : Nat → Int32) (w3 : Nat → Int32) (w4 : Nat → Int32) (w5 : Nat → Int32) (w6 : Nat → Int32) (w7 : Nat → Int32) (hg : g_X5_layStrengths V_t_s V_t_isCut V_t_counts V_t_strength V_t_fails V_t_driver V_t_why V_t_isDone = some (w1, w2, w3, w4, w5, w6, w7)) : Met l yX5_layStrengths wsX5_layStrengths rX5_layStrengths (PcW D cI cZ cB cJ sz [(A_t, .inr (5, [.int V_t_thrown, .ref A_t_s, .ref A_t_aside, .ref A_t_snapshot, .int V_t_isKept, .ref A_t_saved, .int V_t_savedMany, .ref A_t_text, .int V_t_length, .ref A_t_counts, .ref A_t_isCut, .ref A_t_strength, .ref A_t_fails, .ref A_t_why, .ref A_t_driver, .ref A_t_place, .ref A_t_isDone, .int V_t_position, .int V_t_isWrong, .long V_t_digested])), (A_t_s, .inl (cI, 77, .inl V_t_s)), (A_t_isCut, .inl (cZ, 9, .inl V_t_isCut)), (A_t_counts, .inl (cZ, 9, .inl V_t_counts)), (A_t_strength, .inl (cI, 9, .inl V_t_strength)), (A_t_fails, .inl (cZ, 9, .inl V_t_fails)), (A_t_driver, .inl (cI, 9, .inl V_t_driver)), (A_t_why, .inl (cI, 9, .inl V_t_why)), (A_t_isDone, .inl (cZ, 9, .inl V_t_isDone))] [.ref A_t]) (QWv D cI cZ cB cJ sz [(A_t, .inr (5, [.int V_t_thrown, .ref A_t_s, .ref A_t_aside, .ref A_t_snapshot, .int V_t_isKept, .ref A_t_saved, .int V_t_savedMany, .ref A_t_text, .int V_t_length, .ref A_t_counts, .ref A_t_isCut, .ref A_t_strength, .ref A_t_fails, .ref A_t_why, .ref A_t_driver, .ref A_t_place, .ref A_t_isDone, .int V_t_position, .int V_t_isWrong, .long V_t_digested])), (A_t_s, .inl (cI, 77, .inl V_t_s)), (A_t_isCut, .inl (cZ, 9, .inl V_t_isCut)), (A_t_counts, .inl (cZ, 9, .inl V_t_counts)), (A_t_strength, .inl (cI, 9, .inl V_t_strength)), (A_t_fails, .inl (cZ, 9, .inl V_t_fails)), (A_t_driver, .inl (cI, 9, .inl V_t_driver)), (A_t_why, .inl (cI, 9, .inl V_t_why)), (A_t_isDone, .inl (cZ, 9, .inl V_t_isDone))] [(A_t, .inr (5, [.int V_t_thrown, .ref A_t_s, .ref A_t_aside, .ref A_t_snapshot, .int V_t_isKept, .ref A_t_saved, .int V_t_savedMany, .ref A_t_text, .int V_t_length, .ref A_t_counts, .ref A_t_isCut, .ref A_t_strength, .ref A_t_fails, .ref A_t_why, .ref A_t_driver, .ref A_t_place, .ref A_t_isDone, .int V_t_position, .int V_t_isWrong, .long V_t_digested])), (A_t_s, .inl (cI, 77, .inl V_t_s)), (A_t_isCut, .inl (cZ, 9, .inl w1)), (A_t_counts, .inl (cZ, 9, .inl w2)), (A_t_strength, .inl (cI, 9, .inl w3)), (A_t_fails, .inl (cZ, 9, .inl w4)), (A_t_driver, .inl (cI, 9, .inl w5)), (A_t_why, .inl (cI, 9, .inl w6)), (A_t_isDone, .inl (cZ, 9, .inl w7))]) 0 0 (va_A [(A_t, .inr (5, [.int V_t_thrown, .ref A_t_s, .ref A_t_aside, .ref A_t_snapshot, .int V_t_isKept, .ref A_t_saved, .int V_t_savedMany, .ref A_t_text, .int V_t_length, .ref A_t_counts, .ref A_t_isCut, .ref A_t_strength, .ref A_t_fails, .ref A_t_why, .ref A_t_driver, .ref A_t_place, .ref A_t_isDone, .int V_t_position, .int V_t_isWrong, .long V_t_digested])), (A_t_s, .inl (cI, 77, .inl V_t_s)), (A_t_isCut, .inl (cZ, 9, .inl V_t_isCut)), (A_t_counts, .inl (cZ, 9, .inl V_t_counts)), (A_t_strength, .inl (cI, 9, .inl V_t_strength)), (A_t_fails, .inl (cZ, 9, .inl V_t_fails)), (A_t_driver, .inl (cI, 9, .inl V_t_driver)), (A_t_why, .inl (cI, 9, .inl V_t_why)), (A_t_isDone, .inl (cZ, 9, .inl V_t_isDone))] sz) := by
  refine bodyWv (cc := cX5_layStrengths) (maxL := 2) (lv := [(0, .ref A_t)]) (by decide) rfl (Nat.le_of_ble_eq_true rfl) rfl ?_
  intro p e s m args below meth c Q hx hb hml hown hts A hP hK hD hA hS fin ls hl
  replace hown : s.vm.findClass RX5 = some m.cls := hown
  have S : CallFix p m c cX5_layStrengths 2 s args wsX5_layStrengths RX5 := ⟨hx, hb, hml, hown, hts⟩
  unfold g_X5_layStrengths at hg
  refine lv_iconst (v := 0) hx hb dX5_layStrengths_0 (by decide) ?_
  refine lv_istore_n (lv' := [(1, .int 0), (0, .ref A_t)]) hx hb dX5_layStrengths_1 rfl hl (by decide) rfl (fun ls hl => ?_)
  obtain ⟨f23, f24, f25, f26, f27, f28, f29, hL, hg⟩ := b7_ex hg
  have kx : ∀ (H : Heap) (locs : List Loc), va_P D vwCl [(A_t, .inr (5, [.int V_t_thrown, .ref A_t_s, .ref A_t_aside, .ref A_t_snapshot, .int V_t_isKept, .ref A_t_saved, .int V_t_savedMany, .ref A_t_text, .int V_t_length, .ref A_t_counts, .ref A_t_isCut, .ref A_t_strength, .ref A_t_fails, .ref A_t_why, .ref A_t_driver, .ref A_t_place, .ref A_t_isDone, .int V_t_position, .int V_t_isWrong, .long V_t_digested])), (A_t_s, .inl (cI, 77, .inl V_t_s)), (A_t_isCut, .inl (cZ, 9, .inl f26)), (A_t_counts, .inl (cZ, 9, .inl f23)), (A_t_strength, .inl (cI, 9, .inl f28)), (A_t_fails, .inl (cZ, 9, .inl f25)), (A_t_driver, .inl (cI, 9, .inl f24)), (A_t_why, .inl (cI, 9, .inl f29)), (A_t_isDone, .inl (cZ, 9, .inl f27))] H → va_D A [(A_t, .inr (5, [.int V_t_thrown, .ref A_t_s, .ref A_t_aside, .ref A_t_snapshot, .int V_t_isKept, .ref A_t_saved, .int V_t_savedMany, .ref A_t_text, .int V_t_length, .ref A_t_counts, .ref A_t_isCut, .ref A_t_strength, .ref A_t_fails, .ref A_t_why, .ref A_t_driver, .ref A_t_place, .ref A_t_isDone, .int V_t_position, .int V_t_isWrong, .long V_t_digested])), (A_t_s, .inl (cI, 77, .inl V_t_s)), (A_t_isCut, .inl (cZ, 9, .inl f26)), (A_t_counts, .inl (cZ, 9, .inl f23)), (A_t_strength, .inl (cI, 9, .inl f28)), (A_t_fails, .inl (cZ, 9, .inl f25)), (A_t_driver, .inl (cI, 9, .inl f24)), (A_t_why, .inl (cI, 9, .inl f29)), (A_t_isDone, .inl (cZ, 9, .inl f27))] → va_S A s.heap H locs → ∀ ls : Array Slot, lv_has ls 2 [(0, .ref A_t)] → W p l e rX5_layStrengths s m args below meth c H locs 0 0 Q (F0 m 111 ls []) := by
    intro H locs hP hD hS ls hl
    refine lv_iconst (v := 0) hx hb dX5_layStrengths_111 (by decide) ?_
    refine lv_istore_n (lv' := [(1, .int 0), (0, .ref A_t)]) hx hb dX5_layStrengths_112 rfl hl (by decide) rfl (fun ls hl => ?_)
    obtain ⟨f38, hL, hg⟩ := bind_ex hg
    have kx : ∀ (H : Heap) (locs : List Loc), va_P D vwCl [(A_t, .inr (5, [.int V_t_thrown, .ref A_t_s, .ref A_t_aside, .ref A_t_snapshot, .int V_t_isKept, .ref A_t_saved, .int V_t_savedMany, .ref A_t_text, .int V_t_length, .ref A_t_counts, .ref A_t_isCut, .ref A_t_strength, .ref A_t_fails, .ref A_t_why, .ref A_t_driver, .ref A_t_place, .ref A_t_isDone, .int V_t_position, .int V_t_isWrong, .long V_t_digested])), (A_t_s, .inl (cI, 77, .inl V_t_s)), (A_t_isCut, .inl (cZ, 9, .inl f26)), (A_t_counts, .inl (cZ, 9, .inl f23)), (A_t_strength, .inl (cI, 9, .inl f38)), (A_t_fails, .inl (cZ, 9, .inl f25)), (A_t_driver, .inl (cI, 9, .inl f24)), (A_t_why, .inl (cI, 9, .inl f29)), (A_t_isDone, .inl (cZ, 9, .inl f27))] H → va_D A [(A_t, .inr (5, [.int V_t_thrown, .ref A_t_s, .ref A_t_aside, .ref A_t_snapshot, .int V_t_isKept, .ref A_t_saved, .int V_t_savedMany, .ref A_t_text, .int V_t_length, .ref A_t_counts, .ref A_t_isCut, .ref A_t_strength, .ref A_t_fails, .ref A_t_why, .ref A_t_driver, .ref A_t_place, .ref A_t_isDone, .int V_t_position, .int V_t_isWrong, .long V_t_digested])), (A_t_s, .inl (cI, 77, .inl V_t_s)), (A_t_isCut, .inl (cZ, 9, .inl f26)), (A_t_counts, .inl (cZ, 9, .inl f23)), (A_t_strength, .inl (cI, 9, .inl f38)), (A_t_fails, .inl (cZ, 9, .inl f25)), (A_t_driver, .inl (cI, 9, .inl f24)), (A_t_why, .inl (cI, 9, .inl f29)), (A_t_isDone, .inl (cZ, 9, .inl f27))] → va_S A s.heap H locs → ∀ ls : Array Slot, lv_has ls 2 [] → W p l e rX5_layStrengths s m args below meth c H locs 0 0 Q (F0 m 158 ls []) := by
      intro H locs hP hD hS ls hl
      cases hg
      exact fin _ _ _ _ dX5_layStrengths_158 hP hD hS
    have L : ∀ (nf : Nat) (v30 : Int32) (f31 : Nat → Int32), ∀ (H : Heap) (locs : List Loc), va_P D vwCl [(A_t, .inr (5, [.int V_t_thrown, .ref A_t_s, .ref A_t_aside, .ref A_t_snapshot, .int V_t_isKept, .ref A_t_saved, .int V_t_savedMany, .ref A_t_text, .int V_t_length, .ref A_t_counts, .ref A_t_isCut, .ref A_t_strength, .ref A_t_fails, .ref A_t_why, .ref A_t_driver, .ref A_t_place, .ref A_t_isDone, .int V_t_position, .int V_t_isWrong, .long V_t_digested])), (A_t_s, .inl (cI, 77, .inl V_t_s)), (A_t_isCut, .inl (cZ, 9, .inl f26)), (A_t_counts, .inl (cZ, 9, .inl f23)), (A_t_strength, .inl (cI, 9, .inl f31)), (A_t_fails, .inl (cZ, 9, .inl f25)), (A_t_driver, .inl (cI, 9, .inl f24)), (A_t_why, .inl (cI, 9, .inl f29)), (A_t_isDone, .inl (cZ, 9, .inl f27))] H → va_D A [(A_t, .inr (5, [.int V_t_thrown, .ref A_t_s, .ref A_t_aside, .ref A_t_snapshot, .int V_t_isKept, .ref A_t_saved, .int V_t_savedMany, .ref A_t_text, .int V_t_length, .ref A_t_counts, .ref A_t_isCut, .ref A_t_strength, .ref A_t_fails, .ref A_t_why, .ref A_t_driver, .ref A_t_place, .ref A_t_isDone, .int V_t_position, .int V_t_isWrong, .long V_t_digested])), (A_t_s, .inl (cI, 77, .inl V_t_s)), (A_t_isCut, .inl (cZ, 9, .inl f26)), (A_t_counts, .inl (cZ, 9, .inl f23)), (A_t_strength, .inl (cI, 9, .inl f31)), (A_t_fails, .inl (cZ, 9, .inl f25)), (A_t_driver, .inl (cI, 9, .inl f24)), (A_t_why, .inl (cI, 9, .inl f29)), (A_t_isDone, .inl (cZ, 9, .inl f27))] → va_S A s.heap H locs → ∀ ls : Array Slot, lv_has ls 2 [(1, .int v30), (0, .ref A_t)] → g_X5_layStrengths_L2 V_t_s f23 nf v30 f31 = some f38 → W p l e rX5_layStrengths s m args below meth c H locs 0 0 Q (F0 m 113 ls []) := by
      intro nf
      induction nf with
      | zero =>
        intro v30 f31 H locs hP hD hS ls hl hg
        exact no_some hg
      | succ nf ih =>
        intro v30 f31 H locs hP hD hS ls hl hg
        rw [g_X5_layStrengths_L2] at hg
        refine lv_iload_n hx hb dX5_layStrengths_113 rfl (lv_at hl 0 rfl) ?_
        refine lv_aload_n hx hb dX5_layStrengths_114 rfl (lv_at hl 1 rfl) ?_
        refine xget (ci := 5) (C := RX5) (T := TX5) (N := 20) (v := .ref A_t_s) hx hb hts in_X5_layStrengths_X5 hown hK hP 0 rfl rfl 1 (by decide) wd_X5_layStrengths_1 rfl dX5_layStrengths_115 ?_
        refine lv_bipush (v := 9) hx hb dX5_layStrengths_118 (by decide) ?_
        obtain ⟨v32, hin, hv, hg⟩ := rdA_ex hg
        refine xiald hx hb hK hP 1 rfl hin hv dX5_layStrengths_120 ?_
        refine lv_icmp_ge (tgt := 158) hx hb dX5_layStrengths_121 (by decide) (fun hc => ?_) (fun hc => ?_)
        · replace hg := if_yes hg hc
          cases hg
          exact kx _ _ hP hD hS _ (lv_sub hl [] rfl)
        · replace hg := if_no hg hc
          refine lv_aload_n hx hb dX5_layStrengths_124 rfl (lv_at hl 1 rfl) ?_
          refine xget (ci := 5) (C := RX5) (T := TX5) (N := 20) (v := .ref A_t_counts) hx hb hts in_X5_layStrengths_X5 hown hK hP 0 rfl rfl 9 (by decide) wd_X5_layStrengths_3 rfl dX5_layStrengths_125 ?_
          refine lv_iload_n hx hb dX5_layStrengths_128 rfl (lv_at hl 0 rfl) ?_
          obtain ⟨v33, hin, hv, hg⟩ := rdA_ex hg
          refine xzald hx hb hK hP 3 rfl hin hv dX5_layStrengths_129 ?_
          refine lv_if_eq (tgt := 152) hx hb dX5_layStrengths_130 (by decide) (fun hc => ?_) (fun hc => ?_)
          · replace hg := if_yes hg hc
            refine lv_iinc (v := (v30 + 1)) (lv' := [(1, .int (v30 + 1)), (0, .ref A_t)]) hx hb dX5_layStrengths_152 hl (k := 0) rfl rfl (by decide) rfl (fun ls hl => ?_)
            refine lv_goto (tgt := 113) hx hb dX5_layStrengths_155 (by decide) ?_
            exact ih _ _ _ _ hP hD hS _ (lv_sub hl [0, 1] rfl) hg
          · replace hg := if_no hg hc
            refine lv_aload_n hx hb dX5_layStrengths_133 rfl (lv_at hl 1 rfl) ?_
            refine xget (ci := 5) (C := RX5) (T := TX5) (N := 20) (v := .ref A_t_strength) hx hb hts in_X5_layStrengths_X5 hown hK hP 0 rfl rfl 11 (by decide) wd_X5_layStrengths_4 rfl dX5_layStrengths_134 ?_
            refine lv_aload_n hx hb dX5_layStrengths_137 rfl (lv_at hl 1 rfl) ?_
            refine lv_aload_n hx hb dX5_layStrengths_138 rfl (lv_at hl 1 rfl) ?_
            refine lv_iload_n hx hb dX5_layStrengths_139 rfl (lv_at hl 0 rfl) ?_
            refine lv_iconst (v := 4) hx hb dX5_layStrengths_140 (by decide) ?_
            obtain ⟨v34, hq, hg⟩ := bind_ex hg
            refine callRVi (As := [.int v30, .int 4]) (rest := [.ref A_t, .ref A_t_strength]) S hK hP (c_X5_of l D cI cZ cB cJ A_t A_t_s A_t_aside A_t_snapshot A_t_saved A_t_text A_t_counts A_t_isCut A_t_strength A_t_fails A_t_why A_t_driver A_t_place A_t_isDone V_t_thrown V_t_isKept V_t_savedMany V_t_length V_t_position V_t_isWrong V_t_digested V_t_s v30 4 v34 hq) [0, 1] rfl (cwV 2 hts gX5_layStrengths_X5_of rfl rfl rfl hd_X5_of ⟨Nat.le_of_ble_eq_true rfl, Nat.le_of_ble_eq_true rfl⟩) rfl rfl rfl hl.1 rfl (Nat.le_of_ble_eq_true rfl) dX5_layStrengths_141 ⟨Nat.zero_le _, Nat.zero_le _⟩ ?_
            obtain ⟨v35, hq, hg⟩ := bind_ex hg
            refine callRVi (As := [.int v34]) (rest := [.ref A_t_strength]) S hK hP (c_X5_armyOn l D cI cZ cB cJ A_t A_t_s A_t_aside A_t_snapshot A_t_saved A_t_text A_t_counts A_t_isCut A_t_strength A_t_fails A_t_why A_t_driver A_t_place A_t_isDone V_t_thrown V_t_isKept V_t_savedMany V_t_length V_t_position V_t_isWrong V_t_digested V_t_s v34 v35 hq) [0, 1] rfl (cwV 1 hts gX5_layStrengths_X5_armyOn rfl rfl rfl hd_X5_armyOn ⟨Nat.le_of_ble_eq_true rfl, Nat.le_of_ble_eq_true rfl⟩) rfl rfl rfl hl.1 rfl (Nat.le_of_ble_eq_true rfl) dX5_layStrengths_144 ⟨Nat.zero_le _, Nat.zero_le _⟩ ?_
            refine lv_dup2_11 hx hb dX5_layStrengths_147 rfl rfl ?_
            obtain ⟨v36, hin, hv, hg⟩ := rdA_ex hg
            refine xiald hx hb hK hP 4 rfl hin hv dX5_layStrengths_148 ?_
            refine lv_iconst (v := 1) hx hb dX5_layStrengths_149 (by decide) ?_
            refine lv_iadd hx hb dX5_layStrengths_150 ?_
            obtain ⟨f37, hin, hv, hg⟩ := wrA_ex hg
            refine xiast (ws2 := [(A_t, .inr (5, [.int V_t_thrown, .ref A_t_s, .ref A_t_aside, .ref A_t_snapshot, .int V_t_isKept, .ref A_t_saved, .int V_t_savedMany, .ref A_t_text, .int V_t_length, .ref A_t_counts, .ref A_t_isCut, .ref A_t_strength, .ref A_t_fails, .ref A_t_why, .ref A_t_driver, .ref A_t_place, .ref A_t_isDone, .int V_t_position, .int V_t_isWrong, .long V_t_digested])), (A_t_s, .inl (cI, 77, .inl V_t_s)), (A_t_isCut, .inl (cZ, 9, .inl f26)), (A_t_counts, .inl (cZ, 9, .inl f23)), (A_t_strength, .inl (cI, 9, .inl f37)), (A_t_fails, .inl (cZ, 9, .inl f25)), (A_t_driver, .inl (cI, 9, .inl f24)), (A_t_why, .inl (cI, 9, .inl f29)), (A_t_isDone, .inl (cZ, 9, .inl f27))]) hx hb hK hP hD hS 4 rfl hin hv rfl dX5_layStrengths_151 (fun H locs hP hD hS => ?_)
            refine lv_iinc (v := (v30 + 1)) (lv' := [(1, .int (v30 + 1)), (0, .ref A_t)]) hx hb dX5_layStrengths_152 hl (k := 0) rfl rfl (by decide) rfl (fun ls hl => ?_)
            refine lv_goto (tgt := 113) hx hb dX5_layStrengths_155 (by decide) ?_
            exact ih _ _ _ _ hP hD hS _ (lv_sub hl [0, 1] rfl) hg
    exact L FU _ _ _ _ hP hD hS _ (lv_sub hl [0, 1] rfl) hL
  have L : ∀ (nf : Nat) (v1 : Int32) (f2 : Nat → Int32) (f3 : Nat → Int32) (f4 : Nat → Int32) (f5 : Nat → Int32) (f6 : Nat → Int32) (f7 : Nat → Int32) (f8 : Nat → Int32), ∀ (H : Heap) (locs : List Loc), va_P D vwCl [(A_t, .inr (5, [.int V_t_thrown, .ref A_t_s, .ref A_t_aside, .ref A_t_snapshot, .int V_t_isKept, .ref A_t_saved, .int V_t_savedMany, .ref A_t_text, .int V_t_length, .ref A_t_counts, .ref A_t_isCut, .ref A_t_strength, .ref A_t_fails, .ref A_t_why, .ref A_t_driver, .ref A_t_place, .ref A_t_isDone, .int V_t_position, .int V_t_isWrong, .long V_t_digested])), (A_t_s, .inl (cI, 77, .inl V_t_s)), (A_t_isCut, .inl (cZ, 9, .inl f5)), (A_t_counts, .inl (cZ, 9, .inl f2)), (A_t_strength, .inl (cI, 9, .inl f7)), (A_t_fails, .inl (cZ, 9, .inl f4)), (A_t_driver, .inl (cI, 9, .inl f3)), (A_t_why, .inl (cI, 9, .inl f8)), (A_t_isDone, .inl (cZ, 9, .inl f6))] H → va_D A [(A_t, .inr (5, [.int V_t_thrown, .ref A_t_s, .ref A_t_aside, .ref A_t_snapshot, .int V_t_isKept, .ref A_t_saved, .int V_t_savedMany, .ref A_t_text, .int V_t_length, .ref A_t_counts, .ref A_t_isCut, .ref A_t_strength, .ref A_t_fails, .ref A_t_why, .ref A_t_driver, .ref A_t_place, .ref A_t_isDone, .int V_t_position, .int V_t_isWrong, .long V_t_digested])), (A_t_s, .inl (cI, 77, .inl V_t_s)), (A_t_isCut, .inl (cZ, 9, .inl f5)), (A_t_counts, .inl (cZ, 9, .inl f2)), (A_t_strength, .inl (cI, 9, .inl f7)), (A_t_fails, .inl (cZ, 9, .inl f4)), (A_t_driver, .inl (cI, 9, .inl f3)), (A_t_why, .inl (cI, 9, .inl f8)), (A_t_isDone, .inl (cZ, 9, .inl f6))] → va_S A s.heap H locs → ∀ ls : Array Slot, lv_has ls 2 [(1, .int v1), (0, .ref A_t)] → g_X5_layStrengths_L1 V_t_s nf v1 f2 f3 f4 f5 f6 f7 f8 = some (f23, f24, f25, f26, f27, f28, f29) → W p l e rX5_layStrengths s m args below meth c H locs 0 0 Q (F0 m 2 ls []) := by
    intro nf
    induction nf with
    | zero =>
      intro v1 f2 f3 f4 f5 f6 f7 f8 H locs hP hD hS ls hl hg
      exact no_some hg
    | succ nf ih =>
      intro v1 f2 f3 f4 f5 f6 f7 f8 H locs hP hD hS ls hl hg
      rw [g_X5_layStrengths_L1] at hg
      refine lv_iload_n hx hb dX5_layStrengths_2 rfl (lv_at hl 0 rfl) ?_
      refine lv_aload_n hx hb dX5_layStrengths_3 rfl (lv_at hl 1 rfl) ?_
      refine xget (ci := 5) (C := RX5) (T := TX5) (N := 20) (v := .ref A_t_s) hx hb hts in_X5_layStrengths_X5 hown hK hP 0 rfl rfl 1 (by decide) wd_X5_layStrengths_1 rfl dX5_layStrengths_4 ?_
      refine lv_bipush (v := 9) hx hb dX5_layStrengths_7 (by decide) ?_
      obtain ⟨v9, hin, hv, hg⟩ := rdA_ex hg
      refine xiald hx hb hK hP 1 rfl hin hv dX5_layStrengths_9 ?_
      refine lv_icmp_ge (tgt := 111) hx hb dX5_layStrengths_10 (by decide) (fun hc => ?_) (fun hc => ?_)
      · replace hg := if_yes hg hc
        cases hg
        exact kx _ _ hP hD hS _ (lv_sub hl [1] rfl)
      · replace hg := if_no hg hc
        refine lv_aload_n hx hb dX5_layStrengths_13 rfl (lv_at hl 1 rfl) ?_
        refine xget (ci := 5) (C := RX5) (T := TX5) (N := 20) (v := .ref A_t_isCut) hx hb hts in_X5_layStrengths_X5 hown hK hP 0 rfl rfl 10 (by decide) wd_X5_layStrengths_2 rfl dX5_layStrengths_14 ?_
        refine lv_iload_n hx hb dX5_layStrengths_17 rfl (lv_at hl 0 rfl) ?_
        refine lv_aload_n hx hb dX5_layStrengths_18 rfl (lv_at hl 1 rfl) ?_
        refine lv_iload_n hx hb dX5_layStrengths_19 rfl (lv_at hl 0 rfl) ?_
        refine lv_iconst (v := 2) hx hb dX5_layStrengths_20 (by decide) ?_
        obtain ⟨v10, hq, hg⟩ := bind_ex hg
        refine callRVi (As := [.int v1, .int 2]) (rest := [.int v1, .ref A_t_isCut]) S hK hP (c_X5_of l D cI cZ cB cJ A_t A_t_s A_t_aside A_t_snapshot A_t_saved A_t_text A_t_counts A_t_isCut A_t_strength A_t_fails A_t_why A_t_driver A_t_place A_t_isDone V_t_thrown V_t_isKept V_t_savedMany V_t_length V_t_position V_t_isWrong V_t_digested V_t_s v1 2 v10 hq) [0, 1] rfl (cwV 2 hts gX5_layStrengths_X5_of rfl rfl rfl hd_X5_of ⟨Nat.le_of_ble_eq_true rfl, Nat.le_of_ble_eq_true rfl⟩) rfl rfl rfl hl.1 rfl (Nat.le_of_ble_eq_true rfl) dX5_layStrengths_21 ⟨Nat.zero_le _, Nat.zero_le _⟩ ?_
        refine lv_iconst (v := 2) hx hb dX5_layStrengths_24 (by decide) ?_
        have hJ1 : ∀ (v12 : Int32), bo v12 → ∀ (H : Heap) (locs : List Loc), va_P D vwCl [(A_t, .inr (5, [.int V_t_thrown, .ref A_t_s, .ref A_t_aside, .ref A_t_snapshot, .int V_t_isKept, .ref A_t_saved, .int V_t_savedMany, .ref A_t_text, .int V_t_length, .ref A_t_counts, .ref A_t_isCut, .ref A_t_strength, .ref A_t_fails, .ref A_t_why, .ref A_t_driver, .ref A_t_place, .ref A_t_isDone, .int V_t_position, .int V_t_isWrong, .long V_t_digested])), (A_t_s, .inl (cI, 77, .inl V_t_s)), (A_t_isCut, .inl (cZ, 9, .inl f5)), (A_t_counts, .inl (cZ, 9, .inl f2)), (A_t_strength, .inl (cI, 9, .inl f7)), (A_t_fails, .inl (cZ, 9, .inl f4)), (A_t_driver, .inl (cI, 9, .inl f3)), (A_t_why, .inl (cI, 9, .inl f8)), (A_t_isDone, .inl (cZ, 9, .inl f6))] H → va_D A [(A_t, .inr (5, [.int V_t_thrown, .ref A_t_s, .ref A_t_aside, .ref A_t_snapshot, .int V_t_isKept, .ref A_t_saved, .int V_t_savedMany, .ref A_t_text, .int V_t_length, .ref A_t_counts, .ref A_t_isCut, .ref A_t_strength, .ref A_t_fails, .ref A_t_why, .ref A_t_driver, .ref A_t_place, .ref A_t_isDone, .int V_t_position, .int V_t_isWrong, .long V_t_digested])), (A_t_s, .inl (cI, 77, .inl V_t_s)), (A_t_isCut, .inl (cZ, 9, .inl f5)), (A_t_counts, .inl (cZ, 9, .inl f2)), (A_t_strength, .inl (cI, 9, .inl f7)), (A_t_fails, .inl (cZ, 9, .inl f4)), (A_t_driver, .inl (cI, 9, .inl f3)), (A_t_why, .inl (cI, 9, .inl f8)), (A_t_isDone, .inl (cZ, 9, .inl f6))] → va_S A s.heap H locs → ∀ ls : Array Slot, lv_has ls 2 [(1, .int v1), (0, .ref A_t)] → g_X5_layStrengths_J1 f5 v1 V_t_s f2 f7 f4 f3 f8 f6 (g_X5_layStrengths_L1 V_t_s nf) v12 = some (f23, f24, f25, f26, f27, f28, f29) → W p l e rX5_layStrengths s m args below meth c H locs 0 0 Q (F0 m 41 ls [.int v12, .int v1, .ref A_t_isCut]) := by
          intro v12 hz_v12 H locs hP hD hS ls hl hg
          unfold g_X5_layStrengths_J1 at hg
          obtain ⟨f13, hin, hv, hg⟩ := wrA_ex hg
          refine xzast (ws2 := [(A_t, .inr (5, [.int V_t_thrown, .ref A_t_s, .ref A_t_aside, .ref A_t_snapshot, .int V_t_isKept, .ref A_t_saved, .int V_t_savedMany, .ref A_t_text, .int V_t_length, .ref A_t_counts, .ref A_t_isCut, .ref A_t_strength, .ref A_t_fails, .ref A_t_why, .ref A_t_driver, .ref A_t_place, .ref A_t_isDone, .int V_t_position, .int V_t_isWrong, .long V_t_digested])), (A_t_s, .inl (cI, 77, .inl V_t_s)), (A_t_isCut, .inl (cZ, 9, .inl f13)), (A_t_counts, .inl (cZ, 9, .inl f2)), (A_t_strength, .inl (cI, 9, .inl f7)), (A_t_fails, .inl (cZ, 9, .inl f4)), (A_t_driver, .inl (cI, 9, .inl f3)), (A_t_why, .inl (cI, 9, .inl f8)), (A_t_isDone, .inl (cZ, 9, .inl f6))]) hx hb hK hP hD hS 2 rfl hz_v12 hin hv rfl dX5_layStrengths_41 (fun H locs hP hD hS => ?_)
          refine lv_aload_n hx hb dX5_layStrengths_42 rfl (lv_at hl 1 rfl) ?_
          refine xget (ci := 5) (C := RX5) (T := TX5) (N := 20) (v := .ref A_t_counts) hx hb hts in_X5_layStrengths_X5 hown hK hP 0 rfl rfl 9 (by decide) wd_X5_layStrengths_3 rfl dX5_layStrengths_43 ?_
          refine lv_iload_n hx hb dX5_layStrengths_46 rfl (lv_at hl 0 rfl) ?_
          refine lv_aload_n hx hb dX5_layStrengths_47 rfl (lv_at hl 1 rfl) ?_
          refine lv_iload_n hx hb dX5_layStrengths_48 rfl (lv_at hl 0 rfl) ?_
          obtain ⟨v14, hq, hg⟩ := bind_ex hg
          refine callRVz (As := [.int v1]) (rest := [.int v1, .ref A_t_counts]) S hK hP (c_X5_hasObject l D cI cZ cB cJ A_t A_t_s A_t_aside A_t_snapshot A_t_saved A_t_text A_t_counts A_t_isCut A_t_strength A_t_fails A_t_why A_t_driver A_t_place A_t_isDone V_t_thrown V_t_isKept V_t_savedMany V_t_length V_t_position V_t_isWrong V_t_digested V_t_s v1 v14 hq) [0, 1] rfl (cwV 1 hts gX5_layStrengths_X5_hasObject rfl rfl rfl hd_X5_hasObject ⟨Nat.le_of_ble_eq_true rfl, Nat.le_of_ble_eq_true rfl⟩) rfl rfl rfl hl.1 rfl (Nat.le_of_ble_eq_true rfl) dX5_layStrengths_49 ⟨Nat.zero_le _, Nat.zero_le _⟩ (fun hz_v14 => ?_)
          have hJ2 : ∀ (v16 : Int32), bo v16 → ∀ (H : Heap) (locs : List Loc), va_P D vwCl [(A_t, .inr (5, [.int V_t_thrown, .ref A_t_s, .ref A_t_aside, .ref A_t_snapshot, .int V_t_isKept, .ref A_t_saved, .int V_t_savedMany, .ref A_t_text, .int V_t_length, .ref A_t_counts, .ref A_t_isCut, .ref A_t_strength, .ref A_t_fails, .ref A_t_why, .ref A_t_driver, .ref A_t_place, .ref A_t_isDone, .int V_t_position, .int V_t_isWrong, .long V_t_digested])), (A_t_s, .inl (cI, 77, .inl V_t_s)), (A_t_isCut, .inl (cZ, 9, .inl f13)), (A_t_counts, .inl (cZ, 9, .inl f2)), (A_t_strength, .inl (cI, 9, .inl f7)), (A_t_fails, .inl (cZ, 9, .inl f4)), (A_t_driver, .inl (cI, 9, .inl f3)), (A_t_why, .inl (cI, 9, .inl f8)), (A_t_isDone, .inl (cZ, 9, .inl f6))] H → va_D A [(A_t, .inr (5, [.int V_t_thrown, .ref A_t_s, .ref A_t_aside, .ref A_t_snapshot, .int V_t_isKept, .ref A_t_saved, .int V_t_savedMany, .ref A_t_text, .int V_t_length, .ref A_t_counts, .ref A_t_isCut, .ref A_t_strength, .ref A_t_fails, .ref A_t_why, .ref A_t_driver, .ref A_t_place, .ref A_t_isDone, .int V_t_position, .int V_t_isWrong, .long V_t_digested])), (A_t_s, .inl (cI, 77, .inl V_t_s)), (A_t_isCut, .inl (cZ, 9, .inl f13)), (A_t_counts, .inl (cZ, 9, .inl f2)), (A_t_strength, .inl (cI, 9, .inl f7)), (A_t_fails, .inl (cZ, 9, .inl f4)), (A_t_driver, .inl (cI, 9, .inl f3)), (A_t_why, .inl (cI, 9, .inl f8)), (A_t_isDone, .inl (cZ, 9, .inl f6))] → va_S A s.heap H locs → ∀ ls : Array Slot, lv_has ls 2 [(1, .int v1), (0, .ref A_t)] → g_X5_layStrengths_J2 f2 v1 f7 f4 f3 f8 f6 f13 (g_X5_layStrengths_L1 V_t_s nf) v16 = some (f23, f24, f25, f26, f27, f28, f29) → W p l e rX5_layStrengths s m args below meth c H locs 0 0 Q (F0 m 69 ls [.int v16, .int v1, .ref A_t_counts]) := by
            intro v16 hz_v16 H locs hP hD hS ls hl hg
            unfold g_X5_layStrengths_J2 at hg
            obtain ⟨f17, hin, hv, hg⟩ := wrA_ex hg
            refine xzast (ws2 := [(A_t, .inr (5, [.int V_t_thrown, .ref A_t_s, .ref A_t_aside, .ref A_t_snapshot, .int V_t_isKept, .ref A_t_saved, .int V_t_savedMany, .ref A_t_text, .int V_t_length, .ref A_t_counts, .ref A_t_isCut, .ref A_t_strength, .ref A_t_fails, .ref A_t_why, .ref A_t_driver, .ref A_t_place, .ref A_t_isDone, .int V_t_position, .int V_t_isWrong, .long V_t_digested])), (A_t_s, .inl (cI, 77, .inl V_t_s)), (A_t_isCut, .inl (cZ, 9, .inl f13)), (A_t_counts, .inl (cZ, 9, .inl f17)), (A_t_strength, .inl (cI, 9, .inl f7)), (A_t_fails, .inl (cZ, 9, .inl f4)), (A_t_driver, .inl (cI, 9, .inl f3)), (A_t_why, .inl (cI, 9, .inl f8)), (A_t_isDone, .inl (cZ, 9, .inl f6))]) hx hb hK hP hD hS 3 rfl hz_v16 hin hv rfl dX5_layStrengths_69 (fun H locs hP hD hS => ?_)
            refine lv_aload_n hx hb dX5_layStrengths_70 rfl (lv_at hl 1 rfl) ?_
            refine xget (ci := 5) (C := RX5) (T := TX5) (N := 20) (v := .ref A_t_strength) hx hb hts in_X5_layStrengths_X5 hown hK hP 0 rfl rfl 11 (by decide) wd_X5_layStrengths_4 rfl dX5_layStrengths_71 ?_
            refine lv_iload_n hx hb dX5_layStrengths_74 rfl (lv_at hl 0 rfl) ?_
            refine lv_iconst (v := 1) hx hb dX5_layStrengths_75 (by decide) ?_
            obtain ⟨f18, hin, hv, hg⟩ := wrA_ex hg
            refine xiast (ws2 := [(A_t, .inr (5, [.int V_t_thrown, .ref A_t_s, .ref A_t_aside, .ref A_t_snapshot, .int V_t_isKept, .ref A_t_saved, .int V_t_savedMany, .ref A_t_text, .int V_t_length, .ref A_t_counts, .ref A_t_isCut, .ref A_t_strength, .ref A_t_fails, .ref A_t_why, .ref A_t_driver, .ref A_t_place, .ref A_t_isDone, .int V_t_position, .int V_t_isWrong, .long V_t_digested])), (A_t_s, .inl (cI, 77, .inl V_t_s)), (A_t_isCut, .inl (cZ, 9, .inl f13)), (A_t_counts, .inl (cZ, 9, .inl f17)), (A_t_strength, .inl (cI, 9, .inl f18)), (A_t_fails, .inl (cZ, 9, .inl f4)), (A_t_driver, .inl (cI, 9, .inl f3)), (A_t_why, .inl (cI, 9, .inl f8)), (A_t_isDone, .inl (cZ, 9, .inl f6))]) hx hb hK hP hD hS 4 rfl hin hv rfl dX5_layStrengths_76 (fun H locs hP hD hS => ?_)
            refine lv_aload_n hx hb dX5_layStrengths_77 rfl (lv_at hl 1 rfl) ?_
            refine xget (ci := 5) (C := RX5) (T := TX5) (N := 20) (v := .ref A_t_fails) hx hb hts in_X5_layStrengths_X5 hown hK hP 0 rfl rfl 12 (by decide) wd_X5_layStrengths_5 rfl dX5_layStrengths_78 ?_
            refine lv_iload_n hx hb dX5_layStrengths_81 rfl (lv_at hl 0 rfl) ?_
            refine lv_iconst (v := 0) hx hb dX5_layStrengths_82 (by decide) ?_
            obtain ⟨f19, hin, hv, hg⟩ := wrA_ex hg
            refine xzast (ws2 := [(A_t, .inr (5, [.int V_t_thrown, .ref A_t_s, .ref A_t_aside, .ref A_t_snapshot, .int V_t_isKept, .ref A_t_saved, .int V_t_savedMany, .ref A_t_text, .int V_t_length, .ref A_t_counts, .ref A_t_isCut, .ref A_t_strength, .ref A_t_fails, .ref A_t_why, .ref A_t_driver, .ref A_t_place, .ref A_t_isDone, .int V_t_position, .int V_t_isWrong, .long V_t_digested])), (A_t_s, .inl (cI, 77, .inl V_t_s)), (A_t_isCut, .inl (cZ, 9, .inl f13)), (A_t_counts, .inl (cZ, 9, .inl f17)), (A_t_strength, .inl (cI, 9, .inl f18)), (A_t_fails, .inl (cZ, 9, .inl f19)), (A_t_driver, .inl (cI, 9, .inl f3)), (A_t_why, .inl (cI, 9, .inl f8)), (A_t_isDone, .inl (cZ, 9, .inl f6))]) hx hb hK hP hD hS 5 rfl bo_0 hin hv rfl dX5_layStrengths_83 (fun H locs hP hD hS => ?_)
            refine lv_aload_n hx hb dX5_layStrengths_84 rfl (lv_at hl 1 rfl) ?_
            refine xget (ci := 5) (C := RX5) (T := TX5) (N := 20) (v := .ref A_t_driver) hx hb hts in_X5_layStrengths_X5 hown hK hP 0 rfl rfl 14 (by decide) wd_X5_layStrengths_6 rfl dX5_layStrengths_85 ?_
            refine lv_iload_n hx hb dX5_layStrengths_88 rfl (lv_at hl 0 rfl) ?_
            refine lv_iconst (v := (-1)) hx hb dX5_layStrengths_89 (by decide) ?_
            obtain ⟨f20, hin, hv, hg⟩ := wrA_ex hg
            refine xiast (ws2 := [(A_t, .inr (5, [.int V_t_thrown, .ref A_t_s, .ref A_t_aside, .ref A_t_snapshot, .int V_t_isKept, .ref A_t_saved, .int V_t_savedMany, .ref A_t_text, .int V_t_length, .ref A_t_counts, .ref A_t_isCut, .ref A_t_strength, .ref A_t_fails, .ref A_t_why, .ref A_t_driver, .ref A_t_place, .ref A_t_isDone, .int V_t_position, .int V_t_isWrong, .long V_t_digested])), (A_t_s, .inl (cI, 77, .inl V_t_s)), (A_t_isCut, .inl (cZ, 9, .inl f13)), (A_t_counts, .inl (cZ, 9, .inl f17)), (A_t_strength, .inl (cI, 9, .inl f18)), (A_t_fails, .inl (cZ, 9, .inl f19)), (A_t_driver, .inl (cI, 9, .inl f20)), (A_t_why, .inl (cI, 9, .inl f8)), (A_t_isDone, .inl (cZ, 9, .inl f6))]) hx hb hK hP hD hS 6 rfl hin hv rfl dX5_layStrengths_90 (fun H locs hP hD hS => ?_)
            refine lv_aload_n hx hb dX5_layStrengths_91 rfl (lv_at hl 1 rfl) ?_
            refine xget (ci := 5) (C := RX5) (T := TX5) (N := 20) (v := .ref A_t_why) hx hb hts in_X5_layStrengths_X5 hown hK hP 0 rfl rfl 13 (by decide) wd_X5_layStrengths_7 rfl dX5_layStrengths_92 ?_
            refine lv_iload_n hx hb dX5_layStrengths_95 rfl (lv_at hl 0 rfl) ?_
            refine lv_iconst (v := 0) hx hb dX5_layStrengths_96 (by decide) ?_
            obtain ⟨f21, hin, hv, hg⟩ := wrA_ex hg
            refine xiast (ws2 := [(A_t, .inr (5, [.int V_t_thrown, .ref A_t_s, .ref A_t_aside, .ref A_t_snapshot, .int V_t_isKept, .ref A_t_saved, .int V_t_savedMany, .ref A_t_text, .int V_t_length, .ref A_t_counts, .ref A_t_isCut, .ref A_t_strength, .ref A_t_fails, .ref A_t_why, .ref A_t_driver, .ref A_t_place, .ref A_t_isDone, .int V_t_position, .int V_t_isWrong, .long V_t_digested])), (A_t_s, .inl (cI, 77, .inl V_t_s)), (A_t_isCut, .inl (cZ, 9, .inl f13)), (A_t_counts, .inl (cZ, 9, .inl f17)), (A_t_strength, .inl (cI, 9, .inl f18)), (A_t_fails, .inl (cZ, 9, .inl f19)), (A_t_driver, .inl (cI, 9, .inl f20)), (A_t_why, .inl (cI, 9, .inl f21)), (A_t_isDone, .inl (cZ, 9, .inl f6))]) hx hb hK hP hD hS 7 rfl hin hv rfl dX5_layStrengths_97 (fun H locs hP hD hS => ?_)
            refine lv_aload_n hx hb dX5_layStrengths_98 rfl (lv_at hl 1 rfl) ?_
            refine xget (ci := 5) (C := RX5) (T := TX5) (N := 20) (v := .ref A_t_isDone) hx hb hts in_X5_layStrengths_X5 hown hK hP 0 rfl rfl 16 (by decide) wd_X5_layStrengths_8 rfl dX5_layStrengths_99 ?_
            refine lv_iload_n hx hb dX5_layStrengths_102 rfl (lv_at hl 0 rfl) ?_
            refine lv_iconst (v := 0) hx hb dX5_layStrengths_103 (by decide) ?_
            obtain ⟨f22, hin, hv, hg⟩ := wrA_ex hg
            refine xzast (ws2 := [(A_t, .inr (5, [.int V_t_thrown, .ref A_t_s, .ref A_t_aside, .ref A_t_snapshot, .int V_t_isKept, .ref A_t_saved, .int V_t_savedMany, .ref A_t_text, .int V_t_length, .ref A_t_counts, .ref A_t_isCut, .ref A_t_strength, .ref A_t_fails, .ref A_t_why, .ref A_t_driver, .ref A_t_place, .ref A_t_isDone, .int V_t_position, .int V_t_isWrong, .long V_t_digested])), (A_t_s, .inl (cI, 77, .inl V_t_s)), (A_t_isCut, .inl (cZ, 9, .inl f13)), (A_t_counts, .inl (cZ, 9, .inl f17)), (A_t_strength, .inl (cI, 9, .inl f18)), (A_t_fails, .inl (cZ, 9, .inl f19)), (A_t_driver, .inl (cI, 9, .inl f20)), (A_t_why, .inl (cI, 9, .inl f21)), (A_t_isDone, .inl (cZ, 9, .inl f22))]) hx hb hK hP hD hS 8 rfl bo_0 hin hv rfl dX5_layStrengths_104 (fun H locs hP hD hS => ?_)
            refine lv_iinc (v := (v1 + 1)) (lv' := [(1, .int (v1 + 1)), (0, .ref A_t)]) hx hb dX5_layStrengths_105 hl (k := 0) rfl rfl (by decide) rfl (fun ls hl => ?_)
            refine lv_goto (tgt := 2) hx hb dX5_layStrengths_108 (by decide) ?_
            exact ih _ _ _ _ _ _ _ _ _ _ hP hD hS _ (lv_sub hl [0, 1] rfl) hg
          refine lv_if_eq (tgt := 68) hx hb dX5_layStrengths_52 (by decide) (fun hc => ?_) (fun hc => ?_)
          · replace hg := if_yes hg hc
            refine lv_iconst (v := 0) hx hb dX5_layStrengths_68 (by decide) ?_
            exact hJ2 _ bo_0 _ _ hP hD hS _ (lv_sub hl [0, 1] rfl) hg
          · replace hg := if_no hg hc
            refine lv_aload_n hx hb dX5_layStrengths_55 rfl (lv_at hl 1 rfl) ?_
            refine xget (ci := 5) (C := RX5) (T := TX5) (N := 20) (v := .ref A_t_isCut) hx hb hts in_X5_layStrengths_X5 hown hK hP 0 rfl rfl 10 (by decide) wd_X5_layStrengths_2 rfl dX5_layStrengths_56 ?_
            refine lv_iload_n hx hb dX5_layStrengths_59 rfl (lv_at hl 0 rfl) ?_
            obtain ⟨v15, hin, hv, hg⟩ := rdA_ex hg
            refine xzald hx hb hK hP 2 rfl hin hv dX5_layStrengths_60 ?_
            refine lv_if_ne (tgt := 68) hx hb dX5_layStrengths_61 (by decide) (fun hc => ?_) (fun hc => ?_)
            · replace hg := if_no hg hc
              refine lv_iconst (v := 0) hx hb dX5_layStrengths_68 (by decide) ?_
              exact hJ2 _ bo_0 _ _ hP hD hS _ (lv_sub hl [0, 1] rfl) hg
            · replace hg := if_yes hg hc
              refine lv_iconst (v := 1) hx hb dX5_layStrengths_64 (by decide) ?_
              refine lv_goto (tgt := 69) hx hb dX5_layStrengths_65 (by decide) ?_
              exact hJ2 _ bo_1 _ _ hP hD hS _ (lv_sub hl [0, 1] rfl) hg
        refine lv_icmp_ne (tgt := 40) hx hb dX5_layStrengths_25 (by decide) (fun hc => ?_) (fun hc => ?_)
        · replace hg := if_no hg hc
          refine lv_iconst (v := 0) hx hb dX5_layStrengths_40 (by decide) ?_
          exact hJ1 _ bo_0 _ _ hP hD hS _ (lv_sub hl [0, 1] rfl) hg
        · replace hg := if_yes hg hc
          refine lv_aload_n hx hb dX5_layStrengths_28 rfl (lv_at hl 1 rfl) ?_
          refine lv_iload_n hx hb dX5_layStrengths_29 rfl (lv_at hl 0 rfl) ?_
          obtain ⟨v11, hq, hg⟩ := bind_ex hg
          refine callRVz (As := [.int v1]) (rest := [.int v1, .ref A_t_isCut]) S hK hP (c_X5_isAttacked l D cI cZ cB cJ A_t A_t_s A_t_aside A_t_snapshot A_t_saved A_t_text A_t_counts A_t_isCut A_t_strength A_t_fails A_t_why A_t_driver A_t_place A_t_isDone V_t_thrown V_t_isKept V_t_savedMany V_t_length V_t_position V_t_isWrong V_t_digested V_t_s v1 v11 hq) [0, 1] rfl (cwV 1 hts gX5_layStrengths_X5_isAttacked rfl rfl rfl hd_X5_isAttacked ⟨Nat.le_of_ble_eq_true rfl, Nat.le_of_ble_eq_true rfl⟩) rfl rfl rfl hl.1 rfl (Nat.le_of_ble_eq_true rfl) dX5_layStrengths_30 ⟨Nat.zero_le _, Nat.zero_le _⟩ (fun hz_v11 => ?_)
          refine lv_if_eq (tgt := 40) hx hb dX5_layStrengths_33 (by decide) (fun hc => ?_) (fun hc => ?_)
          · replace hg := if_yes hg hc
            refine lv_iconst (v := 0) hx hb dX5_layStrengths_40 (by decide) ?_
            exact hJ1 _ bo_0 _ _ hP hD hS _ (lv_sub hl [0, 1] rfl) hg
          · replace hg := if_no hg hc
            refine lv_iconst (v := 1) hx hb dX5_layStrengths_36 (by decide) ?_
            refine lv_goto (tgt := 41) hx hb dX5_layStrengths_37 (by decide) ?_
            exact hJ1 _ bo_1 _ _ hP hD hS _ (lv_sub hl [0, 1] rfl) hg
  exact L FU _ _ _ _ _ _ _ _ _ _ hP hD hS _ (lv_sub hl [0, 1] rfl) hL
theorem hd_X5_stays : yX5_stays.cls = RX5 ∧ yX5_stays.cls ≠ "java/lang/invoke/MethodHandle" ∧ yX5_stays.cls ≠ "java/lang/invoke/VarHandle" ∧ (parseMethodDescriptor yX5_stays.desc).map (fun d => d.parameters.length) = some 1 := by decide +kernel
theorem in_X5_stays_X5 : ∀ w ∈ u_ws RX5 TX5 20, w ∈ wsX5_stays := fun _ h => List.mem_cons_of_mem _ (List.mem_append_right _ h)
theorem wd_X5_stays_1 : Cond.fieldLink RX5 35 "FogOrdersModel" "fails" "[Z" ∈ wsX5_stays := List.mem_of_getElem? (i := 1) rfl
abbrev rX5_stays : Room := { frames := 3, cells := 0, slots := 0, locals := 64 }
set_option maxHeartbeats 4000000 in
set_option maxRecDepth 100000 in
theorem c_X5_stays (l : Launch) (D : va_G) (cI cZ cB cJ : ClassId) (A_t : Nat) (A_t_s : Nat) (A_t_aside : Nat) (A_t_snapshot : Nat) (A_t_saved : Nat) (A_t_text : Nat) (A_t_counts : Nat) (A_t_isCut : Nat) (A_t_strength : Nat) (A_t_fails : Nat) (A_t_why : Nat) (A_t_driver : Nat) (A_t_place : Nat) (A_t_isDone : Nat) (V_t_thrown : Int32) (V_t_isKept : Int32) (V_t_savedMany : Int32) (V_t_length : Int32) (V_t_position : Int32) (V_t_isWrong : Int32) (V_t_digested : Int64) (V_t_s : Nat → Int32) (V_t_fails : Nat → Int32) (x1 : Int32) (r0 : Int32) (hg : g_X5_stays V_t_s V_t_fails x1 = some r0) : Met l yX5_stays wsX5_stays rX5_stays (PcR D cI cZ cB cJ [(A_t, .inr (5, [.int V_t_thrown, .ref A_t_s, .ref A_t_aside, .ref A_t_snapshot, .int V_t_isKept, .ref A_t_saved, .int V_t_savedMany, .ref A_t_text, .int V_t_length, .ref A_t_counts, .ref A_t_isCut, .ref A_t_strength, .ref A_t_fails, .ref A_t_why, .ref A_t_driver, .ref A_t_place, .ref A_t_isDone, .int V_t_position, .int V_t_isWrong, .long V_t_digested])), (A_t_s, .inl (cI, 77, .inl V_t_s)), (A_t_fails, .inl (cZ, 9, .inl V_t_fails))] [.ref A_t, .int x1]) (vp_Si (fun r' => r' = r0 ∧ bo r0)) 0 0 (fun _ => False) := by
  refine bodyRz (cc := cX5_stays) (maxL := 2) (lv := [(0, .ref A_t), (1, .int x1)]) (by decide) rfl (Nat.le_of_ble_eq_true rfl) rfl ?_
  intro p e s m args below meth c Q hx hb hml hown hts hP hK fin ls hl
  replace hown : s.vm.findClass RX5 = some m.cls := hown
  have S : CallFix p m c cX5_stays 2 s args wsX5_stays RX5 := ⟨hx, hb, hml, hown, hts⟩
  unfold g_X5_stays at hg
  refine lv_aload_n hx hb dX5_stays_0 rfl (lv_at hl 0 rfl) ?_
  refine lv_iload_n hx hb dX5_stays_1 rfl (lv_at hl 1 rfl) ?_
  obtain ⟨v1, hq, hg⟩ := bind_ex hg
  refine callRVz (As := [.int x1]) (rest := []) S hK hP (c_X5_moves l D cI cZ cB cJ A_t A_t_s A_t_aside A_t_snapshot A_t_saved A_t_text A_t_counts A_t_isCut A_t_strength A_t_fails A_t_why A_t_driver A_t_place A_t_isDone V_t_thrown V_t_isKept V_t_savedMany V_t_length V_t_position V_t_isWrong V_t_digested V_t_s x1 v1 hq) [0, 1] rfl (cwV 1 hts gX5_stays_X5_moves rfl rfl rfl hd_X5_moves ⟨Nat.le_of_ble_eq_true rfl, Nat.le_of_ble_eq_true rfl⟩) rfl rfl rfl hl.1 rfl (Nat.le_of_ble_eq_true rfl) dX5_stays_2 ⟨Nat.zero_le _, Nat.zero_le _⟩ (fun hz_v1 => ?_)
  refine lv_if_eq (tgt := 17) hx hb dX5_stays_5 (by decide) (fun hc => ?_) (fun hc => ?_)
  · replace hg := if_yes hg hc
    refine lv_iconst (v := 1) hx hb dX5_stays_17 (by decide) ?_
    refine lv_goto (tgt := 22) hx hb dX5_stays_18 (by decide) ?_
    cases hg
    exact fin _ _ bo_1 dX5_stays_22
  · replace hg := if_no hg hc
    refine lv_aload_n hx hb dX5_stays_8 rfl (lv_at hl 0 rfl) ?_
    refine xget (ci := 5) (C := RX5) (T := TX5) (N := 20) (v := .ref A_t_fails) hx hb hts in_X5_stays_X5 hown hK hP 0 rfl rfl 12 (by decide) wd_X5_stays_1 rfl dX5_stays_9 ?_
    refine lv_iload_n hx hb dX5_stays_12 rfl (lv_at hl 1 rfl) ?_
    obtain ⟨v2, hin, hv, hg⟩ := rdA_ex hg
    refine xzald hx hb hK hP 2 rfl hin hv dX5_stays_13 ?_
    refine lv_if_eq (tgt := 21) hx hb dX5_stays_14 (by decide) (fun hc => ?_) (fun hc => ?_)
    · replace hg := if_yes hg hc
      refine lv_iconst (v := 0) hx hb dX5_stays_21 (by decide) ?_
      cases hg
      exact fin _ _ bo_0 dX5_stays_22
    · replace hg := if_no hg hc
      refine lv_iconst (v := 1) hx hb dX5_stays_17 (by decide) ?_
      refine lv_goto (tgt := 22) hx hb dX5_stays_18 (by decide) ?_
      cases hg
      exact fin _ _ bo_1 dX5_stays_22
theorem hd_X5_reason : yX5_reason.cls = RX5 ∧ yX5_reason.cls ≠ "java/lang/invoke/MethodHandle" ∧ yX5_reason.cls ≠ "java/lang/invoke/VarHandle" ∧ (parseMethodDescriptor yX5_reason.desc).map (fun d => d.parameters.length) = some 1 := by decide +kernel
theorem in_X5_reason_X5 : ∀ w ∈ u_ws RX5 TX5 20, w ∈ wsX5_reason := fun _ h => List.mem_cons_of_mem _ (List.mem_append_right _ h)
theorem wd_X5_reason_1 : Cond.fieldLink RX5 7 "FogOrdersModel" "s" "[I" ∈ wsX5_reason := List.mem_of_getElem? (i := 1) rfl
theorem wd_X5_reason_2 : Cond.fieldLink RX5 32 "FogOrdersModel" "strength" "[I" ∈ wsX5_reason := List.mem_of_getElem? (i := 2) rfl
abbrev rX5_reason : Room := { frames := 4, cells := 0, slots := 0, locals := 86 }
set_option maxHeartbeats 4000000 in
set_option maxRecDepth 100000 in
theorem c_X5_reason (l : Launch) (D : va_G) (cI cZ cB cJ : ClassId) (A_t : Nat) (A_t_s : Nat) (A_t_aside : Nat) (A_t_snapshot : Nat) (A_t_saved : Nat) (A_t_text : Nat) (A_t_counts : Nat) (A_t_isCut : Nat) (A_t_strength : Nat) (A_t_fails : Nat) (A_t_why : Nat) (A_t_driver : Nat) (A_t_place : Nat) (A_t_isDone : Nat) (V_t_thrown : Int32) (V_t_isKept : Int32) (V_t_savedMany : Int32) (V_t_length : Int32) (V_t_position : Int32) (V_t_isWrong : Int32) (V_t_digested : Int64) (V_t_s : Nat → Int32) (V_t_strength : Nat → Int32) (V_t_fails : Nat → Int32) (x1 : Int32) (r0 : Int32) (hg : g_X5_reason V_t_s V_t_strength V_t_fails x1 = some r0) : Met l yX5_reason wsX5_reason rX5_reason (PcR D cI cZ cB cJ [(A_t, .inr (5, [.int V_t_thrown, .ref A_t_s, .ref A_t_aside, .ref A_t_snapshot, .int V_t_isKept, .ref A_t_saved, .int V_t_savedMany, .ref A_t_text, .int V_t_length, .ref A_t_counts, .ref A_t_isCut, .ref A_t_strength, .ref A_t_fails, .ref A_t_why, .ref A_t_driver, .ref A_t_place, .ref A_t_isDone, .int V_t_position, .int V_t_isWrong, .long V_t_digested])), (A_t_s, .inl (cI, 77, .inl V_t_s)), (A_t_strength, .inl (cI, 9, .inl V_t_strength)), (A_t_fails, .inl (cZ, 9, .inl V_t_fails))] [.ref A_t, .int x1]) (vp_Si (fun r' => r' = r0 ∧ True)) 0 0 (fun _ => False) := by
  refine bodyRi (cc := cX5_reason) (maxL := 4) (lv := [(0, .ref A_t), (1, .int x1)]) (by decide) rfl (Nat.le_of_ble_eq_true rfl) rfl ?_
  intro p e s m args below meth c Q hx hb hml hown hts hP hK fin ls hl
  replace hown : s.vm.findClass RX5 = some m.cls := hown
  have S : CallFix p m c cX5_reason 4 s args wsX5_reason RX5 := ⟨hx, hb, hml, hown, hts⟩
  unfold g_X5_reason at hg
  refine lv_aload_n hx hb dX5_reason_0 rfl (lv_at hl 0 rfl) ?_
  refine lv_iload_n hx hb dX5_reason_1 rfl (lv_at hl 1 rfl) ?_
  refine lv_iconst (v := 3) hx hb dX5_reason_2 (by decide) ?_
  obtain ⟨v1, hq, hg⟩ := bind_ex hg
  refine callRVi (As := [.int x1, .int 3]) (rest := []) S hK hP (c_X5_of l D cI cZ cB cJ A_t A_t_s A_t_aside A_t_snapshot A_t_saved A_t_text A_t_counts A_t_isCut A_t_strength A_t_fails A_t_why A_t_driver A_t_place A_t_isDone V_t_thrown V_t_isKept V_t_savedMany V_t_length V_t_position V_t_isWrong V_t_digested V_t_s x1 3 v1 hq) [0, 1] rfl (cwV 2 hts gX5_reason_X5_of rfl rfl rfl hd_X5_of ⟨Nat.le_of_ble_eq_true rfl, Nat.le_of_ble_eq_true rfl⟩) rfl rfl rfl hl.1 rfl (Nat.le_of_ble_eq_true rfl) dX5_reason_3 ⟨Nat.zero_le _, Nat.zero_le _⟩ ?_
  refine lv_istore_n (lv' := [(2, .int v1), (0, .ref A_t), (1, .int x1)]) hx hb dX5_reason_6 rfl hl (by decide) rfl (fun ls hl => ?_)
  refine lv_iconst (v := 0) hx hb dX5_reason_7 (by decide) ?_
  refine lv_istore_n (lv' := [(3, .int 0), (2, .int v1), (0, .ref A_t), (1, .int x1)]) hx hb dX5_reason_8 rfl hl (by decide) rfl (fun ls hl => ?_)
  have L : ∀ (nf : Nat) (v2 : Int32), ∀ ls : Array Slot, lv_has ls 4 [(3, .int v2), (2, .int v1), (0, .ref A_t), (1, .int x1)] → g_X5_reason_L1 V_t_s v1 x1 V_t_fails V_t_strength nf v2 = some r0 → W p l e rX5_reason s m args below meth c s.heap [] 0 0 Q (F0 m 9 ls []) := by
    intro nf
    induction nf with
    | zero =>
      intro v2 ls hl hg
      exact no_some hg
    | succ nf ih =>
      intro v2 ls hl hg
      rw [g_X5_reason_L1] at hg
      refine lv_iload_n hx hb dX5_reason_9 rfl (lv_at hl 0 rfl) ?_
      refine lv_aload_n hx hb dX5_reason_10 rfl (lv_at hl 2 rfl) ?_
      refine xget (ci := 5) (C := RX5) (T := TX5) (N := 20) (v := .ref A_t_s) hx hb hts in_X5_reason_X5 hown hK hP 0 rfl rfl 1 (by decide) wd_X5_reason_1 rfl dX5_reason_11 ?_
      refine lv_bipush (v := 9) hx hb dX5_reason_14 (by decide) ?_
      obtain ⟨v3, hin, hv, hg⟩ := rdA_ex hg
      refine xiald hx hb hK hP 1 rfl hin hv dX5_reason_16 ?_
      refine lv_icmp_ge (tgt := 57) hx hb dX5_reason_17 (by decide) (fun hc => ?_) (fun hc => ?_)
      · replace hg := if_yes hg hc
        refine lv_aload_n hx hb dX5_reason_57 rfl (lv_at hl 2 rfl) ?_
        refine lv_iload_n hx hb dX5_reason_58 rfl (lv_at hl 1 rfl) ?_
        obtain ⟨v4, hq, hg⟩ := bind_ex hg
        refine callRVi (As := [.int v1]) (rest := []) S hK hP (c_X5_armyOn l D cI cZ cB cJ A_t A_t_s A_t_aside A_t_snapshot A_t_saved A_t_text A_t_counts A_t_isCut A_t_strength A_t_fails A_t_why A_t_driver A_t_place A_t_isDone V_t_thrown V_t_isKept V_t_savedMany V_t_length V_t_position V_t_isWrong V_t_digested V_t_s v1 v4 hq) [0, 1] rfl (cwV 1 hts gX5_reason_X5_armyOn rfl rfl rfl hd_X5_armyOn ⟨Nat.le_of_ble_eq_true rfl, Nat.le_of_ble_eq_true rfl⟩) rfl rfl rfl hl.1 rfl (Nat.le_of_ble_eq_true rfl) dX5_reason_59 ⟨Nat.zero_le _, Nat.zero_le _⟩ ?_
        refine lv_istore_n (lv' := [(3, .int v4), (2, .int v1), (0, .ref A_t), (1, .int x1)]) hx hb dX5_reason_62 rfl hl (by decide) rfl (fun ls hl => ?_)
        refine lv_iload_n hx hb dX5_reason_63 rfl (lv_at hl 0 rfl) ?_
        refine lv_iconst (v := (-1)) hx hb dX5_reason_64 (by decide) ?_
        refine lv_icmp_ne (tgt := 70) hx hb dX5_reason_65 (by decide) (fun hc => ?_) (fun hc => ?_)
        · replace hg := if_no hg hc
          refine lv_aload_n hx hb dX5_reason_70 rfl (lv_at hl 2 rfl) ?_
          refine lv_iload_n hx hb dX5_reason_71 rfl (lv_at hl 0 rfl) ?_
          refine lv_aload_n hx hb dX5_reason_72 rfl (lv_at hl 2 rfl) ?_
          refine lv_iload_n hx hb dX5_reason_73 rfl (lv_at hl 3 rfl) ?_
          refine lv_iconst (v := 1) hx hb dX5_reason_74 (by decide) ?_
          obtain ⟨v5, hq, hg⟩ := bind_ex hg
          refine callRVi (As := [.int x1, .int 1]) (rest := [.int v4, .ref A_t]) S hK hP (c_X5_of l D cI cZ cB cJ A_t A_t_s A_t_aside A_t_snapshot A_t_saved A_t_text A_t_counts A_t_isCut A_t_strength A_t_fails A_t_why A_t_driver A_t_place A_t_isDone V_t_thrown V_t_isKept V_t_savedMany V_t_length V_t_position V_t_isWrong V_t_digested V_t_s x1 1 v5 hq) [0, 1] rfl (cwV 2 hts gX5_reason_X5_of rfl rfl rfl hd_X5_of ⟨Nat.le_of_ble_eq_true rfl, Nat.le_of_ble_eq_true rfl⟩) rfl rfl rfl hl.1 rfl (Nat.le_of_ble_eq_true rfl) dX5_reason_75 ⟨Nat.zero_le _, Nat.zero_le _⟩ ?_
          obtain ⟨v6, hq, hg⟩ := bind_ex hg
          refine callRVz (As := [.int v4, .int v5]) (rest := []) S hK hP (c_X5_movesTo l D cI cZ cB cJ A_t A_t_s A_t_aside A_t_snapshot A_t_saved A_t_text A_t_counts A_t_isCut A_t_strength A_t_fails A_t_why A_t_driver A_t_place A_t_isDone V_t_thrown V_t_isKept V_t_savedMany V_t_length V_t_position V_t_isWrong V_t_digested V_t_s v4 v5 v6 hq) [0, 1] rfl (cwV 2 hts gX5_reason_X5_movesTo rfl rfl rfl hd_X5_movesTo ⟨Nat.le_of_ble_eq_true rfl, Nat.le_of_ble_eq_true rfl⟩) rfl rfl rfl hl.1 rfl (Nat.le_of_ble_eq_true rfl) dX5_reason_78 ⟨Nat.zero_le _, Nat.zero_le _⟩ (fun hz_v6 => ?_)
          have hJ1 : ∀ ls : Array Slot, lv_has ls 4 [(3, .int v4), (0, .ref A_t), (1, .int x1)] → g_X5_reason_J1 V_t_s V_t_fails v4 x1 V_t_strength = some r0 → W p l e rX5_reason s m args below meth c s.heap [] 0 0 Q (F0 m 101 ls []) := by
            intro ls hl hg
            unfold g_X5_reason_J1 at hg
            refine lv_aload_n hx hb dX5_reason_101 rfl (lv_at hl 1 rfl) ?_
            refine lv_iload_n hx hb dX5_reason_102 rfl (lv_at hl 0 rfl) ?_
            obtain ⟨v9, hq, hg⟩ := bind_ex hg
            refine callRVz (As := [.int v4]) (rest := []) S hK hP (c_X5_stays l D cI cZ cB cJ A_t A_t_s A_t_aside A_t_snapshot A_t_saved A_t_text A_t_counts A_t_isCut A_t_strength A_t_fails A_t_why A_t_driver A_t_place A_t_isDone V_t_thrown V_t_isKept V_t_savedMany V_t_length V_t_position V_t_isWrong V_t_digested V_t_s V_t_fails v4 v9 hq) [0, 1, 3] rfl (cwV 1 hts gX5_reason_X5_stays rfl rfl rfl hd_X5_stays ⟨Nat.le_of_ble_eq_true rfl, Nat.le_of_ble_eq_true rfl⟩) rfl rfl rfl hl.1 rfl (Nat.le_of_ble_eq_true rfl) dX5_reason_103 ⟨Nat.zero_le _, Nat.zero_le _⟩ (fun hz_v9 => ?_)
            refine lv_if_ne (tgt := 111) hx hb dX5_reason_106 (by decide) (fun hc => ?_) (fun hc => ?_)
            · replace hg := if_no hg hc
              refine lv_aload_n hx hb dX5_reason_111 rfl (lv_at hl 1 rfl) ?_
              refine lv_iload_n hx hb dX5_reason_112 rfl (lv_at hl 0 rfl) ?_
              refine lv_iconst (v := 0) hx hb dX5_reason_113 (by decide) ?_
              obtain ⟨v10, hq, hg⟩ := bind_ex hg
              refine callRVi (As := [.int v4, .int 0]) (rest := []) S hK hP (c_X5_of l D cI cZ cB cJ A_t A_t_s A_t_aside A_t_snapshot A_t_saved A_t_text A_t_counts A_t_isCut A_t_strength A_t_fails A_t_why A_t_driver A_t_place A_t_isDone V_t_thrown V_t_isKept V_t_savedMany V_t_length V_t_position V_t_isWrong V_t_digested V_t_s v4 0 v10 hq) [0, 1] rfl (cwV 2 hts gX5_reason_X5_of rfl rfl rfl hd_X5_of ⟨Nat.le_of_ble_eq_true rfl, Nat.le_of_ble_eq_true rfl⟩) rfl rfl rfl hl.1 rfl (Nat.le_of_ble_eq_true rfl) dX5_reason_114 ⟨Nat.zero_le _, Nat.zero_le _⟩ ?_
              refine lv_aload_n hx hb dX5_reason_117 rfl (lv_at hl 1 rfl) ?_
              refine lv_iload_n hx hb dX5_reason_118 rfl (lv_at hl 2 rfl) ?_
              refine lv_iconst (v := 0) hx hb dX5_reason_119 (by decide) ?_
              obtain ⟨v11, hq, hg⟩ := bind_ex hg
              refine callRVi (As := [.int x1, .int 0]) (rest := [.int v10]) S hK hP (c_X5_of l D cI cZ cB cJ A_t A_t_s A_t_aside A_t_snapshot A_t_saved A_t_text A_t_counts A_t_isCut A_t_strength A_t_fails A_t_why A_t_driver A_t_place A_t_isDone V_t_thrown V_t_isKept V_t_savedMany V_t_length V_t_position V_t_isWrong V_t_digested V_t_s x1 0 v11 hq) [0, 1] rfl (cwV 2 hts gX5_reason_X5_of rfl rfl rfl hd_X5_of ⟨Nat.le_of_ble_eq_true rfl, Nat.le_of_ble_eq_true rfl⟩) rfl rfl rfl hl.1 rfl (Nat.le_of_ble_eq_true rfl) dX5_reason_120 ⟨Nat.zero_le _, Nat.zero_le _⟩ ?_
              refine lv_icmp_ne (tgt := 128) hx hb dX5_reason_123 (by decide) (fun hc => ?_) (fun hc => ?_)
              · replace hg := if_no hg hc
                refine lv_aload_n hx hb dX5_reason_128 rfl (lv_at hl 1 rfl) ?_
                refine lv_iload_n hx hb dX5_reason_129 rfl (lv_at hl 0 rfl) ?_
                obtain ⟨v12, hq, hg⟩ := bind_ex hg
                refine callRVz (As := [.int v4]) (rest := []) S hK hP (c_X5_moves l D cI cZ cB cJ A_t A_t_s A_t_aside A_t_snapshot A_t_saved A_t_text A_t_counts A_t_isCut A_t_strength A_t_fails A_t_why A_t_driver A_t_place A_t_isDone V_t_thrown V_t_isKept V_t_savedMany V_t_length V_t_position V_t_isWrong V_t_digested V_t_s v4 v12 hq) [0, 1] rfl (cwV 1 hts gX5_reason_X5_moves rfl rfl rfl hd_X5_moves ⟨Nat.le_of_ble_eq_true rfl, Nat.le_of_ble_eq_true rfl⟩) rfl rfl rfl hl.1 rfl (Nat.le_of_ble_eq_true rfl) dX5_reason_130 ⟨Nat.zero_le _, Nat.zero_le _⟩ (fun hz_v12 => ?_)
                have hJ2 : ∀ (v14 : Int32), ∀ ls : Array Slot, lv_has ls 4 [(0, .ref A_t), (1, .int x1)] → g_X5_reason_J2 V_t_strength x1 v14 = some r0 → W p l e rX5_reason s m args below meth c s.heap [] 0 0 Q (F0 m 146 ls [.int v14]) := by
                  intro v14 ls hl hg
                  unfold g_X5_reason_J2 at hg
                  refine lv_aload_n hx hb dX5_reason_146 rfl (lv_at hl 0 rfl) ?_
                  refine xget (ci := 5) (C := RX5) (T := TX5) (N := 20) (v := .ref A_t_strength) hx hb hts in_X5_reason_X5 hown hK hP 0 rfl rfl 11 (by decide) wd_X5_reason_2 rfl dX5_reason_147 ?_
                  refine lv_iload_n hx hb dX5_reason_150 rfl (lv_at hl 1 rfl) ?_
                  obtain ⟨v15, hin, hv, hg⟩ := rdA_ex hg
                  refine xiald hx hb hK hP 2 rfl hin hv dX5_reason_151 ?_
                  refine lv_icmp_lt (tgt := 159) hx hb dX5_reason_152 (by decide) (fun hc => ?_) (fun hc => ?_)
                  · replace hg := if_yes hg hc
                    refine lv_iconst (v := 0) hx hb dX5_reason_159 (by decide) ?_
                    cases hg
                    exact fin _ _ dX5_reason_160
                  · replace hg := if_no hg hc
                    refine lv_iconst (v := 4) hx hb dX5_reason_155 (by decide) ?_
                    refine lv_goto (tgt := 160) hx hb dX5_reason_156 (by decide) ?_
                    cases hg
                    exact fin _ _ dX5_reason_160
                refine lv_if_eq (tgt := 140) hx hb dX5_reason_133 (by decide) (fun hc => ?_) (fun hc => ?_)
                · replace hg := if_yes hg hc
                  refine lv_aload_n hx hb dX5_reason_140 rfl (lv_at hl 1 rfl) ?_
                  refine xget (ci := 5) (C := RX5) (T := TX5) (N := 20) (v := .ref A_t_strength) hx hb hts in_X5_reason_X5 hown hK hP 0 rfl rfl 11 (by decide) wd_X5_reason_2 rfl dX5_reason_141 ?_
                  refine lv_iload_n hx hb dX5_reason_144 rfl (lv_at hl 0 rfl) ?_
                  obtain ⟨v13, hin, hv, hg⟩ := rdA_ex hg
                  refine xiald hx hb hK hP 2 rfl hin hv dX5_reason_145 ?_
                  exact hJ2 _ _ (lv_sub hl [1, 2] rfl) hg
                · replace hg := if_no hg hc
                  refine lv_iconst (v := 1) hx hb dX5_reason_136 (by decide) ?_
                  refine lv_goto (tgt := 146) hx hb dX5_reason_137 (by decide) ?_
                  exact hJ2 _ _ (lv_sub hl [1, 2] rfl) hg
              · replace hg := if_yes hg hc
                refine lv_iconst (v := 3) hx hb dX5_reason_126 (by decide) ?_
                cases hg
                exact fin _ _ dX5_reason_127
            · replace hg := if_yes hg hc
              refine lv_iconst (v := 0) hx hb dX5_reason_109 (by decide) ?_
              cases hg
              exact fin _ _ dX5_reason_110
          refine lv_if_eq (tgt := 101) hx hb dX5_reason_81 (by decide) (fun hc => ?_) (fun hc => ?_)
          · replace hg := if_yes hg hc
            exact hJ1 _ (lv_sub hl [0, 2, 3] rfl) hg
          · replace hg := if_no hg hc
            refine lv_aload_n hx hb dX5_reason_84 rfl (lv_at hl 2 rfl) ?_
            refine xget (ci := 5) (C := RX5) (T := TX5) (N := 20) (v := .ref A_t_strength) hx hb hts in_X5_reason_X5 hown hK hP 0 rfl rfl 11 (by decide) wd_X5_reason_2 rfl dX5_reason_85 ?_
            refine lv_iload_n hx hb dX5_reason_88 rfl (lv_at hl 0 rfl) ?_
            obtain ⟨v7, hin, hv, hg⟩ := rdA_ex hg
            refine xiald hx hb hK hP 2 rfl hin hv dX5_reason_89 ?_
            refine lv_aload_n hx hb dX5_reason_90 rfl (lv_at hl 2 rfl) ?_
            refine xget (ci := 5) (C := RX5) (T := TX5) (N := 20) (v := .ref A_t_strength) hx hb hts in_X5_reason_X5 hown hK hP 0 rfl rfl 11 (by decide) wd_X5_reason_2 rfl dX5_reason_91 ?_
            refine lv_iload_n hx hb dX5_reason_94 rfl (lv_at hl 3 rfl) ?_
            obtain ⟨v8, hin, hv, hg⟩ := rdA_ex hg
            refine xiald hx hb hK hP 2 rfl hin hv dX5_reason_95 ?_
            refine lv_icmp_lt (tgt := 101) hx hb dX5_reason_96 (by decide) (fun hc => ?_) (fun hc => ?_)
            · replace hg := if_yes hg hc
              exact hJ1 _ (lv_sub hl [0, 2, 3] rfl) hg
            · replace hg := if_no hg hc
              refine lv_iconst (v := 2) hx hb dX5_reason_99 (by decide) ?_
              cases hg
              exact fin _ _ dX5_reason_100
        · replace hg := if_yes hg hc
          refine lv_iconst (v := 0) hx hb dX5_reason_68 (by decide) ?_
          cases hg
          exact fin _ _ dX5_reason_69
      · replace hg := if_no hg hc
        refine lv_iload_n hx hb dX5_reason_20 rfl (lv_at hl 0 rfl) ?_
        refine lv_iload_n hx hb dX5_reason_21 rfl (lv_at hl 3 rfl) ?_
        refine lv_icmp_eq (tgt := 51) hx hb dX5_reason_22 (by decide) (fun hc => ?_) (fun hc => ?_)
        · replace hg := if_yes hg hc
          refine lv_iinc (v := (v2 + 1)) (lv' := [(3, .int (v2 + 1)), (2, .int v1), (0, .ref A_t), (1, .int x1)]) hx hb dX5_reason_51 hl (k := 0) rfl rfl (by decide) rfl (fun ls hl => ?_)
          refine lv_goto (tgt := 9) hx hb dX5_reason_54 (by decide) ?_
          exact ih _ _ (lv_sub hl [0, 1, 2, 3] rfl) hg
        · replace hg := if_no hg hc
          refine lv_aload_n hx hb dX5_reason_25 rfl (lv_at hl 2 rfl) ?_
          refine lv_iload_n hx hb dX5_reason_26 rfl (lv_at hl 0 rfl) ?_
          refine lv_iload_n hx hb dX5_reason_27 rfl (lv_at hl 1 rfl) ?_
          obtain ⟨v16, hq, hg⟩ := bind_ex hg
          refine callRVz (As := [.int v2, .int v1]) (rest := []) S hK hP (c_X5_movesTo l D cI cZ cB cJ A_t A_t_s A_t_aside A_t_snapshot A_t_saved A_t_text A_t_counts A_t_isCut A_t_strength A_t_fails A_t_why A_t_driver A_t_place A_t_isDone V_t_thrown V_t_isKept V_t_savedMany V_t_length V_t_position V_t_isWrong V_t_digested V_t_s v2 v1 v16 hq) [0, 1] rfl (cwV 2 hts gX5_reason_X5_movesTo rfl rfl rfl hd_X5_movesTo ⟨Nat.le_of_ble_eq_true rfl, Nat.le_of_ble_eq_true rfl⟩) rfl rfl rfl hl.1 rfl (Nat.le_of_ble_eq_true rfl) dX5_reason_28 ⟨Nat.zero_le _, Nat.zero_le _⟩ (fun hz_v16 => ?_)
          refine lv_if_eq (tgt := 51) hx hb dX5_reason_31 (by decide) (fun hc => ?_) (fun hc => ?_)
          · replace hg := if_yes hg hc
            refine lv_iinc (v := (v2 + 1)) (lv' := [(3, .int (v2 + 1)), (2, .int v1), (0, .ref A_t), (1, .int x1)]) hx hb dX5_reason_51 hl (k := 0) rfl rfl (by decide) rfl (fun ls hl => ?_)
            refine lv_goto (tgt := 9) hx hb dX5_reason_54 (by decide) ?_
            exact ih _ _ (lv_sub hl [0, 1, 2, 3] rfl) hg
          · replace hg := if_no hg hc
            refine lv_aload_n hx hb dX5_reason_34 rfl (lv_at hl 2 rfl) ?_
            refine xget (ci := 5) (C := RX5) (T := TX5) (N := 20) (v := .ref A_t_strength) hx hb hts in_X5_reason_X5 hown hK hP 0 rfl rfl 11 (by decide) wd_X5_reason_2 rfl dX5_reason_35 ?_
            refine lv_iload_n hx hb dX5_reason_38 rfl (lv_at hl 0 rfl) ?_
            obtain ⟨v17, hin, hv, hg⟩ := rdA_ex hg
            refine xiald hx hb hK hP 2 rfl hin hv dX5_reason_39 ?_
            refine lv_aload_n hx hb dX5_reason_40 rfl (lv_at hl 2 rfl) ?_
            refine xget (ci := 5) (C := RX5) (T := TX5) (N := 20) (v := .ref A_t_strength) hx hb hts in_X5_reason_X5 hown hK hP 0 rfl rfl 11 (by decide) wd_X5_reason_2 rfl dX5_reason_41 ?_
            refine lv_iload_n hx hb dX5_reason_44 rfl (lv_at hl 3 rfl) ?_
            obtain ⟨v18, hin, hv, hg⟩ := rdA_ex hg
            refine xiald hx hb hK hP 2 rfl hin hv dX5_reason_45 ?_
            refine lv_icmp_lt (tgt := 51) hx hb dX5_reason_46 (by decide) (fun hc => ?_) (fun hc => ?_)
            · replace hg := if_yes hg hc
              refine lv_iinc (v := (v2 + 1)) (lv' := [(3, .int (v2 + 1)), (2, .int v1), (0, .ref A_t), (1, .int x1)]) hx hb dX5_reason_51 hl (k := 0) rfl rfl (by decide) rfl (fun ls hl => ?_)
              refine lv_goto (tgt := 9) hx hb dX5_reason_54 (by decide) ?_
              exact ih _ _ (lv_sub hl [0, 1, 2, 3] rfl) hg
            · replace hg := if_no hg hc
              refine lv_iconst (v := 1) hx hb dX5_reason_49 (by decide) ?_
              cases hg
              exact fin _ _ dX5_reason_50
  exact L FU _ _ (lv_sub hl [0, 1, 2, 3] rfl) hg
theorem hd_X5_layFails : yX5_layFails.cls = RX5 ∧ yX5_layFails.cls ≠ "java/lang/invoke/MethodHandle" ∧ yX5_layFails.cls ≠ "java/lang/invoke/VarHandle" ∧ (parseMethodDescriptor yX5_layFails.desc).map (fun d => d.parameters.length) = some 0 := by decide +kernel
theorem in_X5_layFails_X5 : ∀ w ∈ u_ws RX5 TX5 20, w ∈ wsX5_layFails := fun _ h => List.mem_cons_of_mem _ (List.mem_append_right _ h)
theorem wd_X5_layFails_1 : Cond.fieldLink RX5 7 "FogOrdersModel" "s" "[I" ∈ wsX5_layFails := List.mem_of_getElem? (i := 1) rfl
theorem wd_X5_layFails_3 : Cond.fieldLink RX5 38 "FogOrdersModel" "why" "[I" ∈ wsX5_layFails := List.mem_of_getElem? (i := 3) rfl
theorem wd_X5_layFails_2 : Cond.fieldLink RX5 35 "FogOrdersModel" "fails" "[Z" ∈ wsX5_layFails := List.mem_of_getElem? (i := 2) rfl
abbrev rX5_layFails : Room := { frames := 5, cells := 0, slots := 0, locals := 109 }
set_option maxHeartbeats 4000000 in
set_option maxRecDepth 100000 in
theorem c_X5_layFails (l : Launch) (D : va_G) (cI cZ cB cJ : ClassId) (A_t : Nat) (A_t_s : Nat) (A_t_aside : Nat) (A_t_snapshot : Nat) (A_t_saved : Nat) (A_t_text : Nat) (A_t_counts : Nat) (A_t_isCut : Nat) (A_t_strength : Nat) (A_t_fails : Nat) (A_t_why : Nat) (A_t_driver : Nat) (A_t_place : Nat) (A_t_isDone : Nat) (sz : Nat) (V_t_thrown : Int32) (V_t_isKept : Int32) (V_t_savedMany : Int32) (V_t_length : Int32) (V_t_position : Int32) (V_t_isWrong : Int32) (V_t_digested : Int64) (V_t_s : Nat → Int32) (V_t_fails : Nat → Int32) (V_t_strength : Nat → Int32) (V_t_why : Nat → Int32) (w1 : Nat → Int32) (w2 : Nat → Int32) (hg : g_X5_layFails V_t_s V_t_fails V_t_strength V_t_why = some (w1, w2)) : Met l yX5_layFails wsX5_layFails rX5_layFails (PcW D cI cZ cB cJ sz [(A_t, .inr (5, [.int V_t_thrown, .ref A_t_s, .ref A_t_aside, .ref A_t_snapshot, .int V_t_isKept, .ref A_t_saved, .int V_t_savedMany, .ref A_t_text, .int V_t_length, .ref A_t_counts, .ref A_t_isCut, .ref A_t_strength, .ref A_t_fails, .ref A_t_why, .ref A_t_driver, .ref A_t_place, .ref A_t_isDone, .int V_t_position, .int V_t_isWrong, .long V_t_digested])), (A_t_s, .inl (cI, 77, .inl V_t_s)), (A_t_fails, .inl (cZ, 9, .inl V_t_fails)), (A_t_strength, .inl (cI, 9, .inl V_t_strength)), (A_t_why, .inl (cI, 9, .inl V_t_why))] [.ref A_t]) (QWv D cI cZ cB cJ sz [(A_t, .inr (5, [.int V_t_thrown, .ref A_t_s, .ref A_t_aside, .ref A_t_snapshot, .int V_t_isKept, .ref A_t_saved, .int V_t_savedMany, .ref A_t_text, .int V_t_length, .ref A_t_counts, .ref A_t_isCut, .ref A_t_strength, .ref A_t_fails, .ref A_t_why, .ref A_t_driver, .ref A_t_place, .ref A_t_isDone, .int V_t_position, .int V_t_isWrong, .long V_t_digested])), (A_t_s, .inl (cI, 77, .inl V_t_s)), (A_t_fails, .inl (cZ, 9, .inl V_t_fails)), (A_t_strength, .inl (cI, 9, .inl V_t_strength)), (A_t_why, .inl (cI, 9, .inl V_t_why))] [(A_t, .inr (5, [.int V_t_thrown, .ref A_t_s, .ref A_t_aside, .ref A_t_snapshot, .int V_t_isKept, .ref A_t_saved, .int V_t_savedMany, .ref A_t_text, .int V_t_length, .ref A_t_counts, .ref A_t_isCut, .ref A_t_strength, .ref A_t_fails, .ref A_t_why, .ref A_t_driver, .ref A_t_place, .ref A_t_isDone, .int V_t_position, .int V_t_isWrong, .long V_t_digested])), (A_t_s, .inl (cI, 77, .inl V_t_s)), (A_t_fails, .inl (cZ, 9, .inl w1)), (A_t_strength, .inl (cI, 9, .inl V_t_strength)), (A_t_why, .inl (cI, 9, .inl w2))]) 0 0 (va_A [(A_t, .inr (5, [.int V_t_thrown, .ref A_t_s, .ref A_t_aside, .ref A_t_snapshot, .int V_t_isKept, .ref A_t_saved, .int V_t_savedMany, .ref A_t_text, .int V_t_length, .ref A_t_counts, .ref A_t_isCut, .ref A_t_strength, .ref A_t_fails, .ref A_t_why, .ref A_t_driver, .ref A_t_place, .ref A_t_isDone, .int V_t_position, .int V_t_isWrong, .long V_t_digested])), (A_t_s, .inl (cI, 77, .inl V_t_s)), (A_t_fails, .inl (cZ, 9, .inl V_t_fails)), (A_t_strength, .inl (cI, 9, .inl V_t_strength)), (A_t_why, .inl (cI, 9, .inl V_t_why))] sz) := by
  refine bodyWv (cc := cX5_layFails) (maxL := 4) (lv := [(0, .ref A_t)]) (by decide) rfl (Nat.le_of_ble_eq_true rfl) rfl ?_
  intro p e s m args below meth c Q hx hb hml hown hts A hP hK hD hA hS fin ls hl
  replace hown : s.vm.findClass RX5 = some m.cls := hown
  have S : CallFix p m c cX5_layFails 4 s args wsX5_layFails RX5 := ⟨hx, hb, hml, hown, hts⟩
  unfold g_X5_layFails at hg
  refine lv_iconst (v := 1) hx hb dX5_layFails_0 (by decide) ?_
  refine lv_istore_n (lv' := [(1, .int 1), (0, .ref A_t)]) hx hb dX5_layFails_1 rfl hl (by decide) rfl (fun ls hl => ?_)
  obtain ⟨f16, hL, hg⟩ := bind_ex hg
  have kx : ∀ (H : Heap) (locs : List Loc), va_P D vwCl [(A_t, .inr (5, [.int V_t_thrown, .ref A_t_s, .ref A_t_aside, .ref A_t_snapshot, .int V_t_isKept, .ref A_t_saved, .int V_t_savedMany, .ref A_t_text, .int V_t_length, .ref A_t_counts, .ref A_t_isCut, .ref A_t_strength, .ref A_t_fails, .ref A_t_why, .ref A_t_driver, .ref A_t_place, .ref A_t_isDone, .int V_t_position, .int V_t_isWrong, .long V_t_digested])), (A_t_s, .inl (cI, 77, .inl V_t_s)), (A_t_fails, .inl (cZ, 9, .inl f16)), (A_t_strength, .inl (cI, 9, .inl V_t_strength)), (A_t_why, .inl (cI, 9, .inl V_t_why))] H → va_D A [(A_t, .inr (5, [.int V_t_thrown, .ref A_t_s, .ref A_t_aside, .ref A_t_snapshot, .int V_t_isKept, .ref A_t_saved, .int V_t_savedMany, .ref A_t_text, .int V_t_length, .ref A_t_counts, .ref A_t_isCut, .ref A_t_strength, .ref A_t_fails, .ref A_t_why, .ref A_t_driver, .ref A_t_place, .ref A_t_isDone, .int V_t_position, .int V_t_isWrong, .long V_t_digested])), (A_t_s, .inl (cI, 77, .inl V_t_s)), (A_t_fails, .inl (cZ, 9, .inl f16)), (A_t_strength, .inl (cI, 9, .inl V_t_strength)), (A_t_why, .inl (cI, 9, .inl V_t_why))] → va_S A s.heap H locs → ∀ ls : Array Slot, lv_has ls 4 [(0, .ref A_t)] → W p l e rX5_layFails s m args below meth c H locs 0 0 Q (F0 m 99 ls []) := by
    intro H locs hP hD hS ls hl
    refine lv_iconst (v := 0) hx hb dX5_layFails_99 (by decide) ?_
    refine lv_istore_n (lv' := [(2, .int 0), (0, .ref A_t)]) hx hb dX5_layFails_100 rfl hl (by decide) rfl (fun ls hl => ?_)
    obtain ⟨f24, hL, hg⟩ := bind_ex hg
    have kx : ∀ (H : Heap) (locs : List Loc), va_P D vwCl [(A_t, .inr (5, [.int V_t_thrown, .ref A_t_s, .ref A_t_aside, .ref A_t_snapshot, .int V_t_isKept, .ref A_t_saved, .int V_t_savedMany, .ref A_t_text, .int V_t_length, .ref A_t_counts, .ref A_t_isCut, .ref A_t_strength, .ref A_t_fails, .ref A_t_why, .ref A_t_driver, .ref A_t_place, .ref A_t_isDone, .int V_t_position, .int V_t_isWrong, .long V_t_digested])), (A_t_s, .inl (cI, 77, .inl V_t_s)), (A_t_fails, .inl (cZ, 9, .inl f16)), (A_t_strength, .inl (cI, 9, .inl V_t_strength)), (A_t_why, .inl (cI, 9, .inl f24))] H → va_D A [(A_t, .inr (5, [.int V_t_thrown, .ref A_t_s, .ref A_t_aside, .ref A_t_snapshot, .int V_t_isKept, .ref A_t_saved, .int V_t_savedMany, .ref A_t_text, .int V_t_length, .ref A_t_counts, .ref A_t_isCut, .ref A_t_strength, .ref A_t_fails, .ref A_t_why, .ref A_t_driver, .ref A_t_place, .ref A_t_isDone, .int V_t_position, .int V_t_isWrong, .long V_t_digested])), (A_t_s, .inl (cI, 77, .inl V_t_s)), (A_t_fails, .inl (cZ, 9, .inl f16)), (A_t_strength, .inl (cI, 9, .inl V_t_strength)), (A_t_why, .inl (cI, 9, .inl f24))] → va_S A s.heap H locs → ∀ ls : Array Slot, lv_has ls 4 [] → W p l e rX5_layFails s m args below meth c H locs 0 0 Q (F0 m 142 ls []) := by
      intro H locs hP hD hS ls hl
      cases hg
      exact fin _ _ _ _ dX5_layFails_142 hP hD hS
    have L : ∀ (nf : Nat) (v17 : Int32) (f18 : Nat → Int32), ∀ (H : Heap) (locs : List Loc), va_P D vwCl [(A_t, .inr (5, [.int V_t_thrown, .ref A_t_s, .ref A_t_aside, .ref A_t_snapshot, .int V_t_isKept, .ref A_t_saved, .int V_t_savedMany, .ref A_t_text, .int V_t_length, .ref A_t_counts, .ref A_t_isCut, .ref A_t_strength, .ref A_t_fails, .ref A_t_why, .ref A_t_driver, .ref A_t_place, .ref A_t_isDone, .int V_t_position, .int V_t_isWrong, .long V_t_digested])), (A_t_s, .inl (cI, 77, .inl V_t_s)), (A_t_fails, .inl (cZ, 9, .inl f16)), (A_t_strength, .inl (cI, 9, .inl V_t_strength)), (A_t_why, .inl (cI, 9, .inl f18))] H → va_D A [(A_t, .inr (5, [.int V_t_thrown, .ref A_t_s, .ref A_t_aside, .ref A_t_snapshot, .int V_t_isKept, .ref A_t_saved, .int V_t_savedMany, .ref A_t_text, .int V_t_length, .ref A_t_counts, .ref A_t_isCut, .ref A_t_strength, .ref A_t_fails, .ref A_t_why, .ref A_t_driver, .ref A_t_place, .ref A_t_isDone, .int V_t_position, .int V_t_isWrong, .long V_t_digested])), (A_t_s, .inl (cI, 77, .inl V_t_s)), (A_t_fails, .inl (cZ, 9, .inl f16)), (A_t_strength, .inl (cI, 9, .inl V_t_strength)), (A_t_why, .inl (cI, 9, .inl f18))] → va_S A s.heap H locs → ∀ ls : Array Slot, lv_has ls 4 [(2, .int v17), (0, .ref A_t)] → g_X5_layFails_L3 V_t_s f16 V_t_strength nf v17 f18 = some f24 → W p l e rX5_layFails s m args below meth c H locs 0 0 Q (F0 m 101 ls []) := by
      intro nf
      induction nf with
      | zero =>
        intro v17 f18 H locs hP hD hS ls hl hg
        exact no_some hg
      | succ nf ih =>
        intro v17 f18 H locs hP hD hS ls hl hg
        rw [g_X5_layFails_L3] at hg
        refine lv_iload_n hx hb dX5_layFails_101 rfl (lv_at hl 0 rfl) ?_
        refine lv_aload_n hx hb dX5_layFails_102 rfl (lv_at hl 1 rfl) ?_
        refine xget (ci := 5) (C := RX5) (T := TX5) (N := 20) (v := .ref A_t_s) hx hb hts in_X5_layFails_X5 hown hK hP 0 rfl rfl 1 (by decide) wd_X5_layFails_1 rfl dX5_layFails_103 ?_
        refine lv_bipush (v := 9) hx hb dX5_layFails_106 (by decide) ?_
        obtain ⟨v19, hin, hv, hg⟩ := rdA_ex hg
        refine xiald hx hb hK hP 1 rfl hin hv dX5_layFails_108 ?_
        refine lv_icmp_ge (tgt := 142) hx hb dX5_layFails_109 (by decide) (fun hc => ?_) (fun hc => ?_)
        · replace hg := if_yes hg hc
          cases hg
          exact kx _ _ hP hD hS _ (lv_sub hl [] rfl)
        · replace hg := if_no hg hc
          refine lv_aload_n hx hb dX5_layFails_112 rfl (lv_at hl 1 rfl) ?_
          refine xget (ci := 5) (C := RX5) (T := TX5) (N := 20) (v := .ref A_t_why) hx hb hts in_X5_layFails_X5 hown hK hP 0 rfl rfl 13 (by decide) wd_X5_layFails_3 rfl dX5_layFails_113 ?_
          refine lv_iload_n hx hb dX5_layFails_116 rfl (lv_at hl 0 rfl) ?_
          refine lv_aload_n hx hb dX5_layFails_117 rfl (lv_at hl 1 rfl) ?_
          refine xget (ci := 5) (C := RX5) (T := TX5) (N := 20) (v := .ref A_t_fails) hx hb hts in_X5_layFails_X5 hown hK hP 0 rfl rfl 12 (by decide) wd_X5_layFails_2 rfl dX5_layFails_118 ?_
          refine lv_iload_n hx hb dX5_layFails_121 rfl (lv_at hl 0 rfl) ?_
          obtain ⟨v20, hin, hv, hg⟩ := rdA_ex hg
          refine xzald hx hb hK hP 2 rfl hin hv dX5_layFails_122 ?_
          have hJ3 : ∀ (v22 : Int32), ∀ (H : Heap) (locs : List Loc), va_P D vwCl [(A_t, .inr (5, [.int V_t_thrown, .ref A_t_s, .ref A_t_aside, .ref A_t_snapshot, .int V_t_isKept, .ref A_t_saved, .int V_t_savedMany, .ref A_t_text, .int V_t_length, .ref A_t_counts, .ref A_t_isCut, .ref A_t_strength, .ref A_t_fails, .ref A_t_why, .ref A_t_driver, .ref A_t_place, .ref A_t_isDone, .int V_t_position, .int V_t_isWrong, .long V_t_digested])), (A_t_s, .inl (cI, 77, .inl V_t_s)), (A_t_fails, .inl (cZ, 9, .inl f16)), (A_t_strength, .inl (cI, 9, .inl V_t_strength)), (A_t_why, .inl (cI, 9, .inl f18))] H → va_D A [(A_t, .inr (5, [.int V_t_thrown, .ref A_t_s, .ref A_t_aside, .ref A_t_snapshot, .int V_t_isKept, .ref A_t_saved, .int V_t_savedMany, .ref A_t_text, .int V_t_length, .ref A_t_counts, .ref A_t_isCut, .ref A_t_strength, .ref A_t_fails, .ref A_t_why, .ref A_t_driver, .ref A_t_place, .ref A_t_isDone, .int V_t_position, .int V_t_isWrong, .long V_t_digested])), (A_t_s, .inl (cI, 77, .inl V_t_s)), (A_t_fails, .inl (cZ, 9, .inl f16)), (A_t_strength, .inl (cI, 9, .inl V_t_strength)), (A_t_why, .inl (cI, 9, .inl f18))] → va_S A s.heap H locs → ∀ ls : Array Slot, lv_has ls 4 [(2, .int v17), (0, .ref A_t)] → g_X5_layFails_J3 f18 v17 (g_X5_layFails_L3 V_t_s f16 V_t_strength nf) v22 = some f24 → W p l e rX5_layFails s m args below meth c H locs 0 0 Q (F0 m 135 ls [.int v22, .int v17, .ref A_t_why]) := by
            intro v22 H locs hP hD hS ls hl hg
            unfold g_X5_layFails_J3 at hg
            obtain ⟨f23, hin, hv, hg⟩ := wrA_ex hg
            refine xiast (ws2 := [(A_t, .inr (5, [.int V_t_thrown, .ref A_t_s, .ref A_t_aside, .ref A_t_snapshot, .int V_t_isKept, .ref A_t_saved, .int V_t_savedMany, .ref A_t_text, .int V_t_length, .ref A_t_counts, .ref A_t_isCut, .ref A_t_strength, .ref A_t_fails, .ref A_t_why, .ref A_t_driver, .ref A_t_place, .ref A_t_isDone, .int V_t_position, .int V_t_isWrong, .long V_t_digested])), (A_t_s, .inl (cI, 77, .inl V_t_s)), (A_t_fails, .inl (cZ, 9, .inl f16)), (A_t_strength, .inl (cI, 9, .inl V_t_strength)), (A_t_why, .inl (cI, 9, .inl f23))]) hx hb hK hP hD hS 4 rfl hin hv rfl dX5_layFails_135 (fun H locs hP hD hS => ?_)
            refine lv_iinc (v := (v17 + 1)) (lv' := [(2, .int (v17 + 1)), (0, .ref A_t)]) hx hb dX5_layFails_136 hl (k := 0) rfl rfl (by decide) rfl (fun ls hl => ?_)
            refine lv_goto (tgt := 101) hx hb dX5_layFails_139 (by decide) ?_
            exact ih _ _ _ _ hP hD hS _ (lv_sub hl [0, 1] rfl) hg
          refine lv_if_eq (tgt := 134) hx hb dX5_layFails_123 (by decide) (fun hc => ?_) (fun hc => ?_)
          · replace hg := if_yes hg hc
            refine lv_iconst (v := 0) hx hb dX5_layFails_134 (by decide) ?_
            exact hJ3 _ _ _ hP hD hS _ (lv_sub hl [0, 1] rfl) hg
          · replace hg := if_no hg hc
            refine lv_aload_n hx hb dX5_layFails_126 rfl (lv_at hl 1 rfl) ?_
            refine lv_iload_n hx hb dX5_layFails_127 rfl (lv_at hl 0 rfl) ?_
            obtain ⟨v21, hq, hg⟩ := bind_ex hg
            refine callRVi (As := [.int v17]) (rest := [.int v17, .ref A_t_why]) S hK hP (c_X5_reason l D cI cZ cB cJ A_t A_t_s A_t_aside A_t_snapshot A_t_saved A_t_text A_t_counts A_t_isCut A_t_strength A_t_fails A_t_why A_t_driver A_t_place A_t_isDone V_t_thrown V_t_isKept V_t_savedMany V_t_length V_t_position V_t_isWrong V_t_digested V_t_s V_t_strength f16 v17 v21 hq) [0, 1, 3, 2] rfl (cwV 1 hts gX5_layFails_X5_reason rfl rfl rfl hd_X5_reason ⟨Nat.le_of_ble_eq_true rfl, Nat.le_of_ble_eq_true rfl⟩) rfl rfl rfl hl.1 rfl (Nat.le_of_ble_eq_true rfl) dX5_layFails_128 ⟨Nat.zero_le _, Nat.zero_le _⟩ ?_
            refine lv_goto (tgt := 135) hx hb dX5_layFails_131 (by decide) ?_
            exact hJ3 _ _ _ hP hD hS _ (lv_sub hl [0, 1] rfl) hg
    exact L FU _ _ _ _ hP hD hS _ (lv_sub hl [0, 1] rfl) hL
  have L : ∀ (nf : Nat) (v1 : Int32) (f2 : Nat → Int32), bo v1 → ∀ (H : Heap) (locs : List Loc), va_P D vwCl [(A_t, .inr (5, [.int V_t_thrown, .ref A_t_s, .ref A_t_aside, .ref A_t_snapshot, .int V_t_isKept, .ref A_t_saved, .int V_t_savedMany, .ref A_t_text, .int V_t_length, .ref A_t_counts, .ref A_t_isCut, .ref A_t_strength, .ref A_t_fails, .ref A_t_why, .ref A_t_driver, .ref A_t_place, .ref A_t_isDone, .int V_t_position, .int V_t_isWrong, .long V_t_digested])), (A_t_s, .inl (cI, 77, .inl V_t_s)), (A_t_fails, .inl (cZ, 9, .inl f2)), (A_t_strength, .inl (cI, 9, .inl V_t_strength)), (A_t_why, .inl (cI, 9, .inl V_t_why))] H → va_D A [(A_t, .inr (5, [.int V_t_thrown, .ref A_t_s, .ref A_t_aside, .ref A_t_snapshot, .int V_t_isKept, .ref A_t_saved, .int V_t_savedMany, .ref A_t_text, .int V_t_length, .ref A_t_counts, .ref A_t_isCut, .ref A_t_strength, .ref A_t_fails, .ref A_t_why, .ref A_t_driver, .ref A_t_place, .ref A_t_isDone, .int V_t_position, .int V_t_isWrong, .long V_t_digested])), (A_t_s, .inl (cI, 77, .inl V_t_s)), (A_t_fails, .inl (cZ, 9, .inl f2)), (A_t_strength, .inl (cI, 9, .inl V_t_strength)), (A_t_why, .inl (cI, 9, .inl V_t_why))] → va_S A s.heap H locs → ∀ ls : Array Slot, lv_has ls 4 [(1, .int v1), (0, .ref A_t)] → g_X5_layFails_L1 V_t_s V_t_strength nf v1 f2 = some f16 → W p l e rX5_layFails s m args below meth c H locs 0 0 Q (F0 m 2 ls []) := by
    intro nf
    induction nf with
    | zero =>
      intro v1 f2 hz_v1 H locs hP hD hS ls hl hg
      exact no_some hg
    | succ nf ih =>
      intro v1 f2 hz_v1 H locs hP hD hS ls hl hg
      rw [g_X5_layFails_L1] at hg
      refine lv_iload_n hx hb dX5_layFails_2 rfl (lv_at hl 0 rfl) ?_
      refine lv_if_eq (tgt := 99) hx hb dX5_layFails_3 (by decide) (fun hc => ?_) (fun hc => ?_)
      · replace hg := if_yes hg hc
        cases hg
        exact kx _ _ hP hD hS _ (lv_sub hl [1] rfl)
      · replace hg := if_no hg hc
        refine lv_iconst (v := 0) hx hb dX5_layFails_6 (by decide) ?_
        refine lv_istore_n (lv' := [(1, .int 0), (0, .ref A_t)]) hx hb dX5_layFails_7 rfl hl (by decide) rfl (fun ls hl => ?_)
        refine lv_iconst (v := 0) hx hb dX5_layFails_8 (by decide) ?_
        refine lv_istore_n (lv' := [(2, .int 0), (1, .int 0), (0, .ref A_t)]) hx hb dX5_layFails_9 rfl hl (by decide) rfl (fun ls hl => ?_)
        obtain ⟨v14, f15, hL, hg⟩ := b2_ex hg
        have kx : bo v14 → ∀ (H : Heap) (locs : List Loc), va_P D vwCl [(A_t, .inr (5, [.int V_t_thrown, .ref A_t_s, .ref A_t_aside, .ref A_t_snapshot, .int V_t_isKept, .ref A_t_saved, .int V_t_savedMany, .ref A_t_text, .int V_t_length, .ref A_t_counts, .ref A_t_isCut, .ref A_t_strength, .ref A_t_fails, .ref A_t_why, .ref A_t_driver, .ref A_t_place, .ref A_t_isDone, .int V_t_position, .int V_t_isWrong, .long V_t_digested])), (A_t_s, .inl (cI, 77, .inl V_t_s)), (A_t_fails, .inl (cZ, 9, .inl f15)), (A_t_strength, .inl (cI, 9, .inl V_t_strength)), (A_t_why, .inl (cI, 9, .inl V_t_why))] H → va_D A [(A_t, .inr (5, [.int V_t_thrown, .ref A_t_s, .ref A_t_aside, .ref A_t_snapshot, .int V_t_isKept, .ref A_t_saved, .int V_t_savedMany, .ref A_t_text, .int V_t_length, .ref A_t_counts, .ref A_t_isCut, .ref A_t_strength, .ref A_t_fails, .ref A_t_why, .ref A_t_driver, .ref A_t_place, .ref A_t_isDone, .int V_t_position, .int V_t_isWrong, .long V_t_digested])), (A_t_s, .inl (cI, 77, .inl V_t_s)), (A_t_fails, .inl (cZ, 9, .inl f15)), (A_t_strength, .inl (cI, 9, .inl V_t_strength)), (A_t_why, .inl (cI, 9, .inl V_t_why))] → va_S A s.heap H locs → ∀ ls : Array Slot, lv_has ls 4 [(1, .int v14), (0, .ref A_t)] → W p l e rX5_layFails s m args below meth c H locs 0 0 Q (F0 m 96 ls []) := by
          intro hz_v14 H locs hP hD hS ls hl
          refine lv_goto (tgt := 2) hx hb dX5_layFails_96 (by decide) ?_
          exact ih _ _ hz_v14 _ _ hP hD hS _ (lv_sub hl [0, 1] rfl) hg
        have L : ∀ (nf : Nat) (v3 : Int32) (v4 : Int32) (f5 : Nat → Int32), bo v3 → ∀ (H : Heap) (locs : List Loc), va_P D vwCl [(A_t, .inr (5, [.int V_t_thrown, .ref A_t_s, .ref A_t_aside, .ref A_t_snapshot, .int V_t_isKept, .ref A_t_saved, .int V_t_savedMany, .ref A_t_text, .int V_t_length, .ref A_t_counts, .ref A_t_isCut, .ref A_t_strength, .ref A_t_fails, .ref A_t_why, .ref A_t_driver, .ref A_t_place, .ref A_t_isDone, .int V_t_position, .int V_t_isWrong, .long V_t_digested])), (A_t_s, .inl (cI, 77, .inl V_t_s)), (A_t_fails, .inl (cZ, 9, .inl f5)), (A_t_strength, .inl (cI, 9, .inl V_t_strength)), (A_t_why, .inl (cI, 9, .inl V_t_why))] H → va_D A [(A_t, .inr (5, [.int V_t_thrown, .ref A_t_s, .ref A_t_aside, .ref A_t_snapshot, .int V_t_isKept, .ref A_t_saved, .int V_t_savedMany, .ref A_t_text, .int V_t_length, .ref A_t_counts, .ref A_t_isCut, .ref A_t_strength, .ref A_t_fails, .ref A_t_why, .ref A_t_driver, .ref A_t_place, .ref A_t_isDone, .int V_t_position, .int V_t_isWrong, .long V_t_digested])), (A_t_s, .inl (cI, 77, .inl V_t_s)), (A_t_fails, .inl (cZ, 9, .inl f5)), (A_t_strength, .inl (cI, 9, .inl V_t_strength)), (A_t_why, .inl (cI, 9, .inl V_t_why))] → va_S A s.heap H locs → ∀ ls : Array Slot, lv_has ls 4 [(2, .int v4), (1, .int v3), (0, .ref A_t)] → g_X5_layFails_L2 V_t_s V_t_strength nf v3 v4 f5 = some (v14, f15) → W p l e rX5_layFails s m args below meth c H locs 0 0 Q (F0 m 10 ls []) := by
          intro nf
          induction nf with
          | zero =>
            intro v3 v4 f5 hz_v3 H locs hP hD hS ls hl hg
            exact no_some hg
          | succ nf ih =>
            intro v3 v4 f5 hz_v3 H locs hP hD hS ls hl hg
            rw [g_X5_layFails_L2] at hg
            refine lv_iload_n hx hb dX5_layFails_10 rfl (lv_at hl 0 rfl) ?_
            refine lv_aload_n hx hb dX5_layFails_11 rfl (lv_at hl 2 rfl) ?_
            refine xget (ci := 5) (C := RX5) (T := TX5) (N := 20) (v := .ref A_t_s) hx hb hts in_X5_layFails_X5 hown hK hP 0 rfl rfl 1 (by decide) wd_X5_layFails_1 rfl dX5_layFails_12 ?_
            refine lv_bipush (v := 9) hx hb dX5_layFails_15 (by decide) ?_
            obtain ⟨v6, hin, hv, hg⟩ := rdA_ex hg
            refine xiald hx hb hK hP 1 rfl hin hv dX5_layFails_17 ?_
            refine lv_icmp_ge (tgt := 96) hx hb dX5_layFails_18 (by decide) (fun hc => ?_) (fun hc => ?_)
            · replace hg := if_yes hg hc
              cases hg
              exact kx hz_v3 _ _ hP hD hS _ (lv_sub hl [1, 2] rfl)
            · replace hg := if_no hg hc
              refine lv_aload_n hx hb dX5_layFails_21 rfl (lv_at hl 2 rfl) ?_
              refine lv_iload_n hx hb dX5_layFails_22 rfl (lv_at hl 0 rfl) ?_
              obtain ⟨v7, hq, hg⟩ := bind_ex hg
              refine callRVz (As := [.int v4]) (rest := []) S hK hP (c_X5_moves l D cI cZ cB cJ A_t A_t_s A_t_aside A_t_snapshot A_t_saved A_t_text A_t_counts A_t_isCut A_t_strength A_t_fails A_t_why A_t_driver A_t_place A_t_isDone V_t_thrown V_t_isKept V_t_savedMany V_t_length V_t_position V_t_isWrong V_t_digested V_t_s v4 v7 hq) [0, 1] rfl (cwV 1 hts gX5_layFails_X5_moves rfl rfl rfl hd_X5_moves ⟨Nat.le_of_ble_eq_true rfl, Nat.le_of_ble_eq_true rfl⟩) rfl rfl rfl hl.1 rfl (Nat.le_of_ble_eq_true rfl) dX5_layFails_23 ⟨Nat.zero_le _, Nat.zero_le _⟩ (fun hz_v7 => ?_)
              have hJ1 : ∀ (v10 : Int32), bo v10 → ∀ (H : Heap) (locs : List Loc), va_P D vwCl [(A_t, .inr (5, [.int V_t_thrown, .ref A_t_s, .ref A_t_aside, .ref A_t_snapshot, .int V_t_isKept, .ref A_t_saved, .int V_t_savedMany, .ref A_t_text, .int V_t_length, .ref A_t_counts, .ref A_t_isCut, .ref A_t_strength, .ref A_t_fails, .ref A_t_why, .ref A_t_driver, .ref A_t_place, .ref A_t_isDone, .int V_t_position, .int V_t_isWrong, .long V_t_digested])), (A_t_s, .inl (cI, 77, .inl V_t_s)), (A_t_fails, .inl (cZ, 9, .inl f5)), (A_t_strength, .inl (cI, 9, .inl V_t_strength)), (A_t_why, .inl (cI, 9, .inl V_t_why))] H → va_D A [(A_t, .inr (5, [.int V_t_thrown, .ref A_t_s, .ref A_t_aside, .ref A_t_snapshot, .int V_t_isKept, .ref A_t_saved, .int V_t_savedMany, .ref A_t_text, .int V_t_length, .ref A_t_counts, .ref A_t_isCut, .ref A_t_strength, .ref A_t_fails, .ref A_t_why, .ref A_t_driver, .ref A_t_place, .ref A_t_isDone, .int V_t_position, .int V_t_isWrong, .long V_t_digested])), (A_t_s, .inl (cI, 77, .inl V_t_s)), (A_t_fails, .inl (cZ, 9, .inl f5)), (A_t_strength, .inl (cI, 9, .inl V_t_strength)), (A_t_why, .inl (cI, 9, .inl V_t_why))] → va_S A s.heap H locs → ∀ ls : Array Slot, lv_has ls 4 [(2, .int v4), (1, .int v3), (0, .ref A_t)] → g_X5_layFails_J1 f5 v4 v3 (g_X5_layFails_L2 V_t_s V_t_strength nf) v10 = some (v14, f15) → W p l e rX5_layFails s m args below meth c H locs 0 0 Q (F0 m 51 ls [.int v10]) := by
                intro v10 hz_v10 H locs hP hD hS ls hl hg
                unfold g_X5_layFails_J1 at hg
                refine lv_istore_n (lv' := [(3, .int v10), (2, .int v4), (1, .int v3), (0, .ref A_t)]) hx hb dX5_layFails_51 rfl hl (by decide) rfl (fun ls hl => ?_)
                refine lv_aload_n hx hb dX5_layFails_52 rfl (lv_at hl 3 rfl) ?_
                refine xget (ci := 5) (C := RX5) (T := TX5) (N := 20) (v := .ref A_t_fails) hx hb hts in_X5_layFails_X5 hown hK hP 0 rfl rfl 12 (by decide) wd_X5_layFails_2 rfl dX5_layFails_53 ?_
                refine lv_iload_n hx hb dX5_layFails_56 rfl (lv_at hl 1 rfl) ?_
                refine lv_aload_n hx hb dX5_layFails_57 rfl (lv_at hl 3 rfl) ?_
                refine xget (ci := 5) (C := RX5) (T := TX5) (N := 20) (v := .ref A_t_fails) hx hb hts in_X5_layFails_X5 hown hK hP 0 rfl rfl 12 (by decide) wd_X5_layFails_2 rfl dX5_layFails_58 ?_
                refine lv_iload_n hx hb dX5_layFails_61 rfl (lv_at hl 1 rfl) ?_
                obtain ⟨v11, hin, hv, hg⟩ := rdA_ex hg
                refine xzald hx hb hK hP 2 rfl hin hv dX5_layFails_62 ?_
                have hJ2 : ∀ (v12 : Int32), bo v12 → ∀ (H : Heap) (locs : List Loc), va_P D vwCl [(A_t, .inr (5, [.int V_t_thrown, .ref A_t_s, .ref A_t_aside, .ref A_t_snapshot, .int V_t_isKept, .ref A_t_saved, .int V_t_savedMany, .ref A_t_text, .int V_t_length, .ref A_t_counts, .ref A_t_isCut, .ref A_t_strength, .ref A_t_fails, .ref A_t_why, .ref A_t_driver, .ref A_t_place, .ref A_t_isDone, .int V_t_position, .int V_t_isWrong, .long V_t_digested])), (A_t_s, .inl (cI, 77, .inl V_t_s)), (A_t_fails, .inl (cZ, 9, .inl f5)), (A_t_strength, .inl (cI, 9, .inl V_t_strength)), (A_t_why, .inl (cI, 9, .inl V_t_why))] H → va_D A [(A_t, .inr (5, [.int V_t_thrown, .ref A_t_s, .ref A_t_aside, .ref A_t_snapshot, .int V_t_isKept, .ref A_t_saved, .int V_t_savedMany, .ref A_t_text, .int V_t_length, .ref A_t_counts, .ref A_t_isCut, .ref A_t_strength, .ref A_t_fails, .ref A_t_why, .ref A_t_driver, .ref A_t_place, .ref A_t_isDone, .int V_t_position, .int V_t_isWrong, .long V_t_digested])), (A_t_s, .inl (cI, 77, .inl V_t_s)), (A_t_fails, .inl (cZ, 9, .inl f5)), (A_t_strength, .inl (cI, 9, .inl V_t_strength)), (A_t_why, .inl (cI, 9, .inl V_t_why))] → va_S A s.heap H locs → ∀ ls : Array Slot, lv_has ls 4 [(3, .int v10), (2, .int v4), (1, .int v3), (0, .ref A_t)] → g_X5_layFails_J2 f5 v4 v3 v10 (g_X5_layFails_L2 V_t_s V_t_strength nf) v12 = some (v14, f15) → W p l e rX5_layFails s m args below meth c H locs 0 0 Q (F0 m 75 ls [.int v12, .int v4, .ref A_t_fails]) := by
                  intro v12 hz_v12 H locs hP hD hS ls hl hg
                  unfold g_X5_layFails_J2 at hg
                  obtain ⟨f13, hin, hv, hg⟩ := wrA_ex hg
                  refine xzast (ws2 := [(A_t, .inr (5, [.int V_t_thrown, .ref A_t_s, .ref A_t_aside, .ref A_t_snapshot, .int V_t_isKept, .ref A_t_saved, .int V_t_savedMany, .ref A_t_text, .int V_t_length, .ref A_t_counts, .ref A_t_isCut, .ref A_t_strength, .ref A_t_fails, .ref A_t_why, .ref A_t_driver, .ref A_t_place, .ref A_t_isDone, .int V_t_position, .int V_t_isWrong, .long V_t_digested])), (A_t_s, .inl (cI, 77, .inl V_t_s)), (A_t_fails, .inl (cZ, 9, .inl f13)), (A_t_strength, .inl (cI, 9, .inl V_t_strength)), (A_t_why, .inl (cI, 9, .inl V_t_why))]) hx hb hK hP hD hS 2 rfl hz_v12 hin hv rfl dX5_layFails_75 (fun H locs hP hD hS => ?_)
                  refine lv_iload_n hx hb dX5_layFails_76 rfl (lv_at hl 2 rfl) ?_
                  refine lv_if_ne (tgt := 84) hx hb dX5_layFails_77 (by decide) (fun hc => ?_) (fun hc => ?_)
                  · replace hg := if_no hg hc
                    refine lv_iconst (v := 1) hx hb dX5_layFails_84 (by decide) ?_
                    refine lv_goto (tgt := 89) hx hb dX5_layFails_85 (by decide) ?_
                    refine lv_istore_n (lv' := [(1, .int 1), (3, .int v10), (2, .int v4), (0, .ref A_t)]) hx hb dX5_layFails_89 rfl hl (by decide) rfl (fun ls hl => ?_)
                    refine lv_iinc (v := (v4 + 1)) (lv' := [(2, .int (v4 + 1)), (1, .int 1), (3, .int v10), (0, .ref A_t)]) hx hb dX5_layFails_90 hl (k := 2) rfl rfl (by decide) rfl (fun ls hl => ?_)
                    refine lv_goto (tgt := 10) hx hb dX5_layFails_93 (by decide) ?_
                    exact ih _ _ _ bo_1 _ _ hP hD hS _ (lv_sub hl [0, 1, 3] rfl) hg
                  · replace hg := if_yes hg hc
                    refine lv_iload_n hx hb dX5_layFails_80 rfl (lv_at hl 0 rfl) ?_
                    refine lv_if_eq (tgt := 88) hx hb dX5_layFails_81 (by decide) (fun hc => ?_) (fun hc => ?_)
                    · replace hg := if_yes hg hc
                      refine lv_iconst (v := 0) hx hb dX5_layFails_88 (by decide) ?_
                      refine lv_istore_n (lv' := [(1, .int 0), (3, .int v10), (2, .int v4), (0, .ref A_t)]) hx hb dX5_layFails_89 rfl hl (by decide) rfl (fun ls hl => ?_)
                      refine lv_iinc (v := (v4 + 1)) (lv' := [(2, .int (v4 + 1)), (1, .int 0), (3, .int v10), (0, .ref A_t)]) hx hb dX5_layFails_90 hl (k := 2) rfl rfl (by decide) rfl (fun ls hl => ?_)
                      refine lv_goto (tgt := 10) hx hb dX5_layFails_93 (by decide) ?_
                      exact ih _ _ _ bo_0 _ _ hP hD hS _ (lv_sub hl [0, 1, 3] rfl) hg
                    · replace hg := if_no hg hc
                      refine lv_iconst (v := 1) hx hb dX5_layFails_84 (by decide) ?_
                      refine lv_goto (tgt := 89) hx hb dX5_layFails_85 (by decide) ?_
                      refine lv_istore_n (lv' := [(1, .int 1), (3, .int v10), (2, .int v4), (0, .ref A_t)]) hx hb dX5_layFails_89 rfl hl (by decide) rfl (fun ls hl => ?_)
                      refine lv_iinc (v := (v4 + 1)) (lv' := [(2, .int (v4 + 1)), (1, .int 1), (3, .int v10), (0, .ref A_t)]) hx hb dX5_layFails_90 hl (k := 2) rfl rfl (by decide) rfl (fun ls hl => ?_)
                      refine lv_goto (tgt := 10) hx hb dX5_layFails_93 (by decide) ?_
                      exact ih _ _ _ bo_1 _ _ hP hD hS _ (lv_sub hl [0, 1, 3] rfl) hg
                refine lv_if_ne (tgt := 70) hx hb dX5_layFails_63 (by decide) (fun hc => ?_) (fun hc => ?_)
                · replace hg := if_no hg hc
                  refine lv_iconst (v := 1) hx hb dX5_layFails_70 (by decide) ?_
                  refine lv_goto (tgt := 75) hx hb dX5_layFails_71 (by decide) ?_
                  exact hJ2 _ bo_1 _ _ hP hD hS _ (lv_sub hl [0, 1, 2, 3] rfl) hg
                · replace hg := if_yes hg hc
                  refine lv_iload_n hx hb dX5_layFails_66 rfl (lv_at hl 0 rfl) ?_
                  refine lv_if_eq (tgt := 74) hx hb dX5_layFails_67 (by decide) (fun hc => ?_) (fun hc => ?_)
                  · replace hg := if_yes hg hc
                    refine lv_iconst (v := 0) hx hb dX5_layFails_74 (by decide) ?_
                    exact hJ2 _ bo_0 _ _ hP hD hS _ (lv_sub hl [0, 1, 2, 3] rfl) hg
                  · replace hg := if_no hg hc
                    refine lv_iconst (v := 1) hx hb dX5_layFails_70 (by decide) ?_
                    refine lv_goto (tgt := 75) hx hb dX5_layFails_71 (by decide) ?_
                    exact hJ2 _ bo_1 _ _ hP hD hS _ (lv_sub hl [0, 1, 2, 3] rfl) hg
              refine lv_if_eq (tgt := 50) hx hb dX5_layFails_26 (by decide) (fun hc => ?_) (fun hc => ?_)
              · replace hg := if_yes hg hc
                refine lv_iconst (v := 0) hx hb dX5_layFails_50 (by decide) ?_
                exact hJ1 _ bo_0 _ _ hP hD hS _ (lv_sub hl [0, 1, 2] rfl) hg
              · replace hg := if_no hg hc
                refine lv_aload_n hx hb dX5_layFails_29 rfl (lv_at hl 2 rfl) ?_
                refine xget (ci := 5) (C := RX5) (T := TX5) (N := 20) (v := .ref A_t_fails) hx hb hts in_X5_layFails_X5 hown hK hP 0 rfl rfl 12 (by decide) wd_X5_layFails_2 rfl dX5_layFails_30 ?_
                refine lv_iload_n hx hb dX5_layFails_33 rfl (lv_at hl 0 rfl) ?_
                obtain ⟨v8, hin, hv, hg⟩ := rdA_ex hg
                refine xzald hx hb hK hP 2 rfl hin hv dX5_layFails_34 ?_
                refine lv_if_ne (tgt := 50) hx hb dX5_layFails_35 (by decide) (fun hc => ?_) (fun hc => ?_)
                · replace hg := if_no hg hc
                  refine lv_iconst (v := 0) hx hb dX5_layFails_50 (by decide) ?_
                  exact hJ1 _ bo_0 _ _ hP hD hS _ (lv_sub hl [0, 1, 2] rfl) hg
                · replace hg := if_yes hg hc
                  refine lv_aload_n hx hb dX5_layFails_38 rfl (lv_at hl 2 rfl) ?_
                  refine lv_iload_n hx hb dX5_layFails_39 rfl (lv_at hl 0 rfl) ?_
                  obtain ⟨v9, hq, hg⟩ := bind_ex hg
                  refine callRVi (As := [.int v4]) (rest := []) S hK hP (c_X5_reason l D cI cZ cB cJ A_t A_t_s A_t_aside A_t_snapshot A_t_saved A_t_text A_t_counts A_t_isCut A_t_strength A_t_fails A_t_why A_t_driver A_t_place A_t_isDone V_t_thrown V_t_isKept V_t_savedMany V_t_length V_t_position V_t_isWrong V_t_digested V_t_s V_t_strength f5 v4 v9 hq) [0, 1, 3, 2] rfl (cwV 1 hts gX5_layFails_X5_reason rfl rfl rfl hd_X5_reason ⟨Nat.le_of_ble_eq_true rfl, Nat.le_of_ble_eq_true rfl⟩) rfl rfl rfl hl.1 rfl (Nat.le_of_ble_eq_true rfl) dX5_layFails_40 ⟨Nat.zero_le _, Nat.zero_le _⟩ ?_
                  refine lv_if_le (tgt := 50) hx hb dX5_layFails_43 (by decide) (fun hc => ?_) (fun hc => ?_)
                  · replace hg := if_yes hg hc
                    refine lv_iconst (v := 0) hx hb dX5_layFails_50 (by decide) ?_
                    exact hJ1 _ bo_0 _ _ hP hD hS _ (lv_sub hl [0, 1, 2] rfl) hg
                  · replace hg := if_no hg hc
                    refine lv_iconst (v := 1) hx hb dX5_layFails_46 (by decide) ?_
                    refine lv_goto (tgt := 51) hx hb dX5_layFails_47 (by decide) ?_
                    exact hJ1 _ bo_1 _ _ hP hD hS _ (lv_sub hl [0, 1, 2] rfl) hg
        exact L FU _ _ _ bo_0 _ _ hP hD hS _ (lv_sub hl [0, 1, 2] rfl) hL
  exact L FU _ _ bo_1 _ _ hP hD hS _ (lv_sub hl [0, 1] rfl) hL
