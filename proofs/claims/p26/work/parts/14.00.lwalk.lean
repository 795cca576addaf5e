theorem hd_L_cell : yL_cell.cls ≠ "java/lang/invoke/MethodHandle" ∧ yL_cell.cls ≠ "java/lang/invoke/VarHandle" ∧ (parseMethodDescriptor yL_cell.desc).map (fun d => d.parameters.length) = some 2 := by decide +kernel
theorem wd_L_cell_1 : Cond.constant RL 7 (40503) ∈ wsL_cell := List.mem_of_getElem? (i := 1) rfl
abbrev rL_cell : Room := { frames := 0, cells := 0, slots := 0, locals := 0 }
set_option maxHeartbeats 4000000 in
set_option maxRecDepth 100000 in
theorem c_L_cell (l : Launch) (D : va_G) (cI cZ cB cJ : ClassId) (b L : Nat) (xs : Nat → Int32) (x2 : Int32) (r0 : Int32) (hg : g_L_cell L xs x2 = some r0) : Met l yL_cell wsL_cell rL_cell (PcS D cI cZ cB cJ b L xs [.ref b, .int x2]) (vp_Si (fun r' => r' = r0 ∧ True)) 0 0 (fun _ => False) := by
  refine bodySi (cc := cL_cell) (maxL := 2) (lv := [(0, .ref b), (1, .int x2)]) (by decide) rfl (Nat.le_of_ble_eq_true rfl) rfl ?_
  intro p e s m args below meth c Q hx hb hml hown hts hX hbl hS fin ls hl
  replace hown : s.vm.findClass RL = some m.cls := hown
  unfold g_L_cell at hg
  refine lv_iload_n hx hb dL_cell_0 rfl (lv_at hl 1 rfl) ?_
  refine lv_aload_n hx hb dL_cell_1 rfl (lv_at hl 0 rfl) ?_
  refine va_slen hx hb hX hbl (fun h => h) hS dL_cell_2 ?_
  refine lv_icmp_ge (tgt := 12) hx hb dL_cell_3 (by decide) (fun hc => ?_) (fun hc => ?_)
  · replace hg := if_yes hg hc
    refine lv_ldc (v := 40503) hx hb hown (hts _ wd_L_cell_1) dL_cell_12 ?_
    refine lv_iload_n hx hb dL_cell_14 rfl (lv_at hl 1 rfl) ?_
    refine lv_imul hx hb dL_cell_15 ?_
    refine lv_sipush (v := 977) hx hb dL_cell_16 (by decide) ?_
    refine lv_iadd hx hb dL_cell_19 ?_
    cases hg
    exact fin _ _ dL_cell_20
  · replace hg := if_no hg hc
    refine lv_aload_n hx hb dL_cell_6 rfl (lv_at hl 0 rfl) ?_
    refine lv_iload_n hx hb dL_cell_7 rfl (lv_at hl 1 rfl) ?_
    obtain ⟨v1, hin, hv, hg⟩ := rdA_ex hg
    refine xsldS hx hb hX hbl (fun h => h) hS hin hv dL_cell_8 ?_
    refine lv_goto (tgt := 20) hx hb dL_cell_9 (by decide) ?_
    cases hg
    exact fin _ _ dL_cell_20
theorem hd_L_low : yL_low.cls ≠ "java/lang/invoke/MethodHandle" ∧ yL_low.cls ≠ "java/lang/invoke/VarHandle" ∧ (parseMethodDescriptor yL_low.desc).map (fun d => d.parameters.length) = some 2 := by decide +kernel
theorem wd_L_low_1 : Cond.constant RL 8 (2147483647) ∈ wsL_low := List.mem_of_getElem? (i := 1) rfl
abbrev rL_low : Room := { frames := 0, cells := 0, slots := 0, locals := 0 }
set_option maxHeartbeats 4000000 in
set_option maxRecDepth 100000 in
theorem c_L_low (l : Launch) (D : va_G) (cI cZ cB cJ : ClassId) (x1 : Int32) (x2 : Int32) (r0 : Int32) (hg : g_L_low x1 x2 = some r0) : Met l yL_low wsL_low rL_low (PcR D cI cZ cB cJ [] [.int x1, .int x2]) (vp_Si (fun r' => r' = r0 ∧ True)) 0 0 (fun _ => False) := by
  refine bodyRi (cc := cL_low) (maxL := 2) (lv := [(0, .int x1), (1, .int x2)]) (by decide) rfl (Nat.le_of_ble_eq_true rfl) rfl ?_
  intro p e s m args below meth c Q hx hb hml hown hts hP hK fin ls hl
  replace hown : s.vm.findClass RL = some m.cls := hown
  have S : CallFix p m c cL_low 2 s args wsL_low RL := ⟨hx, hb, hml, hown, hts⟩
  unfold g_L_low at hg
  refine lv_iload_n hx hb dL_low_0 rfl (lv_at hl 0 rfl) ?_
  refine lv_ldc (v := 2147483647) hx hb hown (hts _ wd_L_low_1) dL_low_1 ?_
  refine lv_iand hx hb dL_low_3 ?_
  refine lv_iload_n hx hb dL_low_4 rfl (lv_at hl 1 rfl) ?_
  have hin := (nzA_ex hg).1
  replace hg := (nzA_ex hg).2
  refine lv_irem hx hb dL_low_5 hin ?_
  cases hg
  exact fin _ _ dL_low_6
theorem hd_L_beside : yL_beside.cls ≠ "java/lang/invoke/MethodHandle" ∧ yL_beside.cls ≠ "java/lang/invoke/VarHandle" ∧ (parseMethodDescriptor yL_beside.desc).map (fun d => d.parameters.length) = some 2 := by decide +kernel
abbrev rL_beside : Room := { frames := 0, cells := 0, slots := 0, locals := 0 }
set_option maxHeartbeats 4000000 in
set_option maxRecDepth 100000 in
theorem c_L_beside (l : Launch) (D : va_G) (cI cZ cB cJ : ClassId) (x1 : Int32) (x2 : Int32) (r0 : Int32) (hg : g_L_beside x1 x2 = some r0) : Met l yL_beside wsL_beside rL_beside (PcR D cI cZ cB cJ [] [.int x1, .int x2]) (vp_Si (fun r' => r' = r0 ∧ True)) 0 0 (fun _ => False) := by
  refine bodyRi (cc := cL_beside) (maxL := 3) (lv := [(0, .int x1), (1, .int x2)]) (by decide) rfl (Nat.le_of_ble_eq_true rfl) rfl ?_
  intro p e s m args below meth c Q hx hb hml hown hts hP hK fin ls hl
  replace hown : s.vm.findClass RL = some m.cls := hown
  have S : CallFix p m c cL_beside 3 s args wsL_beside RL := ⟨hx, hb, hml, hown, hts⟩
  unfold g_L_beside at hg
  refine lv_iload_n hx hb dL_beside_0 rfl (lv_at hl 1 rfl) ?_
  refine lv_iconst (v := 3) hx hb dL_beside_1 (by decide) ?_
  refine lv_iand hx hb dL_beside_2 ?_
  have hJ1 : ∀ (v1 : Int32), ∀ ls : Array Slot, lv_has ls 3 [(0, .int x1)] → g_L_beside_J1 x1 v1 = some r0 → W p l e rL_beside s m args below meth c s.heap [] 0 0 Q (F0 m 35 ls [.int v1]) := by
    intro v1 ls hl hg
    unfold g_L_beside_J1 at hg
    refine lv_istore_n (lv' := [(2, .int v1), (0, .int x1)]) hx hb dL_beside_35 rfl hl (by decide) rfl (fun ls hl => ?_)
    refine lv_iload_n hx hb dL_beside_36 rfl (lv_at hl 1 rfl) ?_
    refine lv_iload_n hx hb dL_beside_37 rfl (lv_at hl 0 rfl) ?_
    refine lv_iadd hx hb dL_beside_38 ?_
    refine lv_bipush (v := 12) hx hb dL_beside_39 (by decide) ?_
    refine lv_irem hx hb dL_beside_41 (by decide) ?_
    cases hg
    exact fin _ _ dL_beside_42
  refine lv_if_ne (tgt := 10) hx hb dL_beside_3 (by decide) (fun hc => ?_) (fun hc => ?_)
  · replace hg := if_no hg hc
    refine lv_iload_n hx hb dL_beside_10 rfl (lv_at hl 1 rfl) ?_
    refine lv_iconst (v := 3) hx hb dL_beside_11 (by decide) ?_
    refine lv_iand hx hb dL_beside_12 ?_
    refine lv_iconst (v := 1) hx hb dL_beside_13 (by decide) ?_
    refine lv_icmp_ne (tgt := 21) hx hb dL_beside_14 (by decide) (fun hc => ?_) (fun hc => ?_)
    · replace hg := if_no hg hc
      refine lv_iload_n hx hb dL_beside_21 rfl (lv_at hl 1 rfl) ?_
      refine lv_iconst (v := 3) hx hb dL_beside_22 (by decide) ?_
      refine lv_iand hx hb dL_beside_23 ?_
      refine lv_iconst (v := 2) hx hb dL_beside_24 (by decide) ?_
      refine lv_icmp_ne (tgt := 33) hx hb dL_beside_25 (by decide) (fun hc => ?_) (fun hc => ?_)
      · replace hg := if_no hg hc
        refine lv_bipush (v := 11) hx hb dL_beside_33 (by decide) ?_
        exact hJ1 _ _ (lv_sub hl [0] rfl) hg
      · replace hg := if_yes hg hc
        refine lv_bipush (v := 8) hx hb dL_beside_28 (by decide) ?_
        refine lv_goto (tgt := 35) hx hb dL_beside_30 (by decide) ?_
        exact hJ1 _ _ (lv_sub hl [0] rfl) hg
    · replace hg := if_yes hg hc
      refine lv_iconst (v := 4) hx hb dL_beside_17 (by decide) ?_
      refine lv_goto (tgt := 35) hx hb dL_beside_18 (by decide) ?_
      exact hJ1 _ _ (lv_sub hl [0] rfl) hg
  · replace hg := if_yes hg hc
    refine lv_iconst (v := 1) hx hb dL_beside_6 (by decide) ?_
    refine lv_goto (tgt := 35) hx hb dL_beside_7 (by decide) ?_
    exact hJ1 _ _ (lv_sub hl [0] rfl) hg
theorem hd_L_succeeds : yL_succeeds.cls ≠ "java/lang/invoke/MethodHandle" ∧ yL_succeeds.cls ≠ "java/lang/invoke/VarHandle" ∧ (parseMethodDescriptor yL_succeeds.desc).map (fun d => d.parameters.length) = some 3 := by decide +kernel
abbrev rL_succeeds : Room := { frames := 7, cells := 0, slots := 0, locals := 154 }
set_option maxHeartbeats 4000000 in
set_option maxRecDepth 100000 in
theorem c_L_succeeds (l : Launch) (D : va_G) (cI cZ cB cJ : ClassId) (A_p0 : Nat) (A_p0_opening : Nat) (A_p0_board : Nat) (A_p0_trialOpening : Nat) (A_p0_trial : Nat) (A_p0_history : Nat) (A_p0_snapshot : Nat) (A_p0_text : Nat) (A_p0_board_numbers : Nat) (A_p0_board_owners : Nat) (A_p0_board_cells : Nat) (A_p0_opening_cut : Nat) (A_p0_opening_counts : Nat) (A_p0_opening_strength : Nat) (A_p0_opening_reason : Nat) (A_p0_opening_driver : Nat) (A_p0_opening_waits : Nat) (A_p0_opening_stands : Nat) (A_p0_history_boards : Nat) (sz : Nat) (V_p0_hasSnapshot : Int32) (V_p0_board_numbers : Nat → Int32) (V_p0_board_cells : Nat → Int32) (V_p0_opening_cut : Nat → Int32) (V_p0_opening_counts : Nat → Int32) (V_p0_opening_strength : Nat → Int32) (V_p0_opening_reason : Nat → Int32) (V_p0_opening_driver : Nat → Int32) (V_p0_opening_waits : Nat → Int32) (V_p0_opening_stands : Nat → Int32) (V_p0_history_oldest : Int32) (V_p0_history_saved : Int32) (V_p0_board_owners : Nat → Int32) (x2 : Int32) (x3 : Int32) (r0 : Int32) (w1 : Nat → Int32) (w2 : Nat → Int32) (w3 : Nat → Int32) (w4 : Nat → Int32) (w5 : Nat → Int32) (w6 : Nat → Int32) (w7 : Nat → Int32) (hg : g_L_succeeds V_p0_board_numbers V_p0_board_cells V_p0_opening_cut V_p0_opening_counts V_p0_opening_strength V_p0_opening_reason V_p0_opening_driver V_p0_opening_waits V_p0_opening_stands V_p0_history_saved V_p0_board_owners x2 x3 = some (r0, w1, w2, w3, w4, w5, w6, w7)) : Met l yL_succeeds wsL_succeeds rL_succeeds (PcW D cI cZ cB cJ sz [(A_p0, .inr (4, [.ref A_p0_opening, .ref A_p0_board, .ref A_p0_trialOpening, .ref A_p0_trial, .ref A_p0_history, .ref A_p0_snapshot, .int V_p0_hasSnapshot, .ref A_p0_text])), (A_p0_board, .inr (0, [.ref A_p0_board_numbers, .ref A_p0_board_owners, .ref A_p0_board_cells])), (A_p0_board_numbers, .inl (cI, 10, .inl V_p0_board_numbers)), (A_p0_opening, .inr (2, [.ref A_p0_board, .ref A_p0_opening_cut, .ref A_p0_opening_counts, .ref A_p0_opening_strength, .ref A_p0_opening_reason, .ref A_p0_opening_driver, .ref A_p0_opening_waits, .ref A_p0_opening_stands])), (A_p0_board_cells, .inl (cI, 63, .inl V_p0_board_cells)), (A_p0_opening_cut, .inl (cI, 9, .inl V_p0_opening_cut)), (A_p0_opening_counts, .inl (cI, 9, .inl V_p0_opening_counts)), (A_p0_opening_strength, .inl (cI, 9, .inl V_p0_opening_strength)), (A_p0_opening_reason, .inl (cI, 9, .inl V_p0_opening_reason)), (A_p0_opening_driver, .inl (cI, 9, .inl V_p0_opening_driver)), (A_p0_opening_waits, .inl (cI, 9, .inl V_p0_opening_waits)), (A_p0_opening_stands, .inl (cI, 9, .inl V_p0_opening_stands)), (A_p0_history, .inr (1, [.ref A_p0_history_boards, .int V_p0_history_oldest, .int V_p0_history_saved])), (A_p0_board_owners, .inl (cI, 12, .inl V_p0_board_owners))] [.ref A_p0, .int x2, .int x3]) (QWz D cI cZ cB cJ sz [(A_p0, .inr (4, [.ref A_p0_opening, .ref A_p0_board, .ref A_p0_trialOpening, .ref A_p0_trial, .ref A_p0_history, .ref A_p0_snapshot, .int V_p0_hasSnapshot, .ref A_p0_text])), (A_p0_board, .inr (0, [.ref A_p0_board_numbers, .ref A_p0_board_owners, .ref A_p0_board_cells])), (A_p0_board_numbers, .inl (cI, 10, .inl V_p0_board_numbers)), (A_p0_opening, .inr (2, [.ref A_p0_board, .ref A_p0_opening_cut, .ref A_p0_opening_counts, .ref A_p0_opening_strength, .ref A_p0_opening_reason, .ref A_p0_opening_driver, .ref A_p0_opening_waits, .ref A_p0_opening_stands])), (A_p0_board_cells, .inl (cI, 63, .inl V_p0_board_cells)), (A_p0_opening_cut, .inl (cI, 9, .inl V_p0_opening_cut)), (A_p0_opening_counts, .inl (cI, 9, .inl V_p0_opening_counts)), (A_p0_opening_strength, .inl (cI, 9, .inl V_p0_opening_strength)), (A_p0_opening_reason, .inl (cI, 9, .inl V_p0_opening_reason)), (A_p0_opening_driver, .inl (cI, 9, .inl V_p0_opening_driver)), (A_p0_opening_waits, .inl (cI, 9, .inl V_p0_opening_waits)), (A_p0_opening_stands, .inl (cI, 9, .inl V_p0_opening_stands)), (A_p0_history, .inr (1, [.ref A_p0_history_boards, .int V_p0_history_oldest, .int V_p0_history_saved])), (A_p0_board_owners, .inl (cI, 12, .inl V_p0_board_owners))] [(A_p0, .inr (4, [.ref A_p0_opening, .ref A_p0_board, .ref A_p0_trialOpening, .ref A_p0_trial, .ref A_p0_history, .ref A_p0_snapshot, .int V_p0_hasSnapshot, .ref A_p0_text])), (A_p0_board, .inr (0, [.ref A_p0_board_numbers, .ref A_p0_board_owners, .ref A_p0_board_cells])), (A_p0_board_numbers, .inl (cI, 10, .inl V_p0_board_numbers)), (A_p0_opening, .inr (2, [.ref A_p0_board, .ref A_p0_opening_cut, .ref A_p0_opening_counts, .ref A_p0_opening_strength, .ref A_p0_opening_reason, .ref A_p0_opening_driver, .ref A_p0_opening_waits, .ref A_p0_opening_stands])), (A_p0_board_cells, .inl (cI, 63, .inl V_p0_board_cells)), (A_p0_opening_cut, .inl (cI, 9, .inl w1)), (A_p0_opening_counts, .inl (cI, 9, .inl w2)), (A_p0_opening_strength, .inl (cI, 9, .inl w3)), (A_p0_opening_reason, .inl (cI, 9, .inl w4)), (A_p0_opening_driver, .inl (cI, 9, .inl w5)), (A_p0_opening_waits, .inl (cI, 9, .inl w6)), (A_p0_opening_stands, .inl (cI, 9, .inl w7)), (A_p0_history, .inr (1, [.ref A_p0_history_boards, .int V_p0_history_oldest, .int V_p0_history_saved])), (A_p0_board_owners, .inl (cI, 12, .inl V_p0_board_owners))] r0) 0 0 (va_A [(A_p0, .inr (4, [.ref A_p0_opening, .ref A_p0_board, .ref A_p0_trialOpening, .ref A_p0_trial, .ref A_p0_history, .ref A_p0_snapshot, .int V_p0_hasSnapshot, .ref A_p0_text])), (A_p0_board, .inr (0, [.ref A_p0_board_numbers, .ref A_p0_board_owners, .ref A_p0_board_cells])), (A_p0_board_numbers, .inl (cI, 10, .inl V_p0_board_numbers)), (A_p0_opening, .inr (2, [.ref A_p0_board, .ref A_p0_opening_cut, .ref A_p0_opening_counts, .ref A_p0_opening_strength, .ref A_p0_opening_reason, .ref A_p0_opening_driver, .ref A_p0_opening_waits, .ref A_p0_opening_stands])), (A_p0_board_cells, .inl (cI, 63, .inl V_p0_board_cells)), (A_p0_opening_cut, .inl (cI, 9, .inl V_p0_opening_cut)), (A_p0_opening_counts, .inl (cI, 9, .inl V_p0_opening_counts)), (A_p0_opening_strength, .inl (cI, 9, .inl V_p0_opening_strength)), (A_p0_opening_reason, .inl (cI, 9, .inl V_p0_opening_reason)), (A_p0_opening_driver, .inl (cI, 9, .inl V_p0_opening_driver)), (A_p0_opening_waits, .inl (cI, 9, .inl V_p0_opening_waits)), (A_p0_opening_stands, .inl (cI, 9, .inl V_p0_opening_stands)), (A_p0_history, .inr (1, [.ref A_p0_history_boards, .int V_p0_history_oldest, .int V_p0_history_saved])), (A_p0_board_owners, .inl (cI, 12, .inl V_p0_board_owners))] sz) := by
  refine bodyWz (cc := cL_succeeds) (maxL := 7) (lv := [(0, .ref A_p0), (1, .int x2), (2, .int x3)]) (by decide) rfl (Nat.le_of_ble_eq_true rfl) rfl ?_
  intro p e s m args below meth c Q hx hb hml hown hts A hP hK hD hA hS fin ls hl
  replace hown : s.vm.findClass RL = some m.cls := hown
  have S : CallFix p m c cL_succeeds 7 s args wsL_succeeds RL := ⟨hx, hb, hml, hown, hts⟩
  replace fin : ∀ (z9 : Int32 × (Nat → Int32) × (Nat → Int32) × (Nat → Int32) × (Nat → Int32) × (Nat → Int32) × (Nat → Int32) × (Nat → Int32)), z9 = (r0, w1, w2, w3, w4, w5, w6, w7) → ∀ (pc : Nat) (ls : Array Slot) (H : Heap) (locs : List Loc), bo z9.1 → decode cL_succeeds pc = .ok (.ireturn, 1) → va_P D vwCl [(A_p0, .inr (4, [.ref A_p0_opening, .ref A_p0_board, .ref A_p0_trialOpening, .ref A_p0_trial, .ref A_p0_history, .ref A_p0_snapshot, .int V_p0_hasSnapshot, .ref A_p0_text])), (A_p0_board, .inr (0, [.ref A_p0_board_numbers, .ref A_p0_board_owners, .ref A_p0_board_cells])), (A_p0_board_numbers, .inl (cI, 10, .inl V_p0_board_numbers)), (A_p0_opening, .inr (2, [.ref A_p0_board, .ref A_p0_opening_cut, .ref A_p0_opening_counts, .ref A_p0_opening_strength, .ref A_p0_opening_reason, .ref A_p0_opening_driver, .ref A_p0_opening_waits, .ref A_p0_opening_stands])), (A_p0_board_cells, .inl (cI, 63, .inl V_p0_board_cells)), (A_p0_opening_cut, .inl (cI, 9, .inl z9.2.1)), (A_p0_opening_counts, .inl (cI, 9, .inl z9.2.2.1)), (A_p0_opening_strength, .inl (cI, 9, .inl z9.2.2.2.1)), (A_p0_opening_reason, .inl (cI, 9, .inl z9.2.2.2.2.1)), (A_p0_opening_driver, .inl (cI, 9, .inl z9.2.2.2.2.2.1)), (A_p0_opening_waits, .inl (cI, 9, .inl z9.2.2.2.2.2.2.1)), (A_p0_opening_stands, .inl (cI, 9, .inl z9.2.2.2.2.2.2.2)), (A_p0_history, .inr (1, [.ref A_p0_history_boards, .int V_p0_history_oldest, .int V_p0_history_saved])), (A_p0_board_owners, .inl (cI, 12, .inl V_p0_board_owners))] H → va_D A [(A_p0, .inr (4, [.ref A_p0_opening, .ref A_p0_board, .ref A_p0_trialOpening, .ref A_p0_trial, .ref A_p0_history, .ref A_p0_snapshot, .int V_p0_hasSnapshot, .ref A_p0_text])), (A_p0_board, .inr (0, [.ref A_p0_board_numbers, .ref A_p0_board_owners, .ref A_p0_board_cells])), (A_p0_board_numbers, .inl (cI, 10, .inl V_p0_board_numbers)), (A_p0_opening, .inr (2, [.ref A_p0_board, .ref A_p0_opening_cut, .ref A_p0_opening_counts, .ref A_p0_opening_strength, .ref A_p0_opening_reason, .ref A_p0_opening_driver, .ref A_p0_opening_waits, .ref A_p0_opening_stands])), (A_p0_board_cells, .inl (cI, 63, .inl V_p0_board_cells)), (A_p0_opening_cut, .inl (cI, 9, .inl z9.2.1)), (A_p0_opening_counts, .inl (cI, 9, .inl z9.2.2.1)), (A_p0_opening_strength, .inl (cI, 9, .inl z9.2.2.2.1)), (A_p0_opening_reason, .inl (cI, 9, .inl z9.2.2.2.2.1)), (A_p0_opening_driver, .inl (cI, 9, .inl z9.2.2.2.2.2.1)), (A_p0_opening_waits, .inl (cI, 9, .inl z9.2.2.2.2.2.2.1)), (A_p0_opening_stands, .inl (cI, 9, .inl z9.2.2.2.2.2.2.2)), (A_p0_history, .inr (1, [.ref A_p0_history_boards, .int V_p0_history_oldest, .int V_p0_history_saved])), (A_p0_board_owners, .inl (cI, 12, .inl V_p0_board_owners))] → va_S A s.heap H locs → W p l e rL_succeeds s m args below meth c H locs 0 0 Q (F0 m pc ls [.int z9.1]) := fun z9 e9 => by subst e9; exact fin
  unfold g_L_succeeds at hg
  refine lv_aload_n hx hb dL_succeeds_0 rfl (lv_at hl 0 rfl) ?_
  refine lv_iload_n hx hb dL_succeeds_1 rfl (lv_at hl 1 rfl) ?_
  refine lv_iconst (v := 1) hx hb dL_succeeds_2 (by decide) ?_
  obtain ⟨k1, v9, f2, f3, f4, f5, f6, f7, f8, hq, hg⟩ := b9_ex hg
  have hk := (nz0_ex hg).1
  replace hg := (nz0_ex hg).2
  subst hk
  refine callWV (As := [.int x2, .int 1]) (rest := []) (wr := [(A_p0_history, .inr (1, [.ref A_p0_history_boards, .int V_p0_history_oldest, .int V_p0_history_saved])), (A_p0_board_owners, .inl (cI, 12, .inl V_p0_board_owners))]) S hK hP hD hS hA (c_X4_ifOpened l D cI cZ cB cJ A_p0 A_p0_opening A_p0_board A_p0_trialOpening A_p0_trial A_p0_history A_p0_snapshot A_p0_text A_p0_board_numbers A_p0_board_owners A_p0_board_cells A_p0_opening_cut A_p0_opening_counts A_p0_opening_strength A_p0_opening_reason A_p0_opening_driver A_p0_opening_waits A_p0_opening_stands _ V_p0_hasSnapshot V_p0_board_numbers V_p0_board_cells V_p0_opening_cut V_p0_opening_counts V_p0_opening_strength V_p0_opening_reason V_p0_opening_driver V_p0_opening_waits V_p0_opening_stands x2 1 v9 f2 f3 f4 f5 f6 f7 f8 hq) [0, 1, 2, 3, 4, 5, 6, 7, 8, 9, 10, 11] [12, 13] rfl rfl (by decide +kernel) (by decide +kernel) (by decide +kernel) (cwV 2 hts gL_succeeds_X4_ifOpened rfl rfl rfl hd_X4_ifOpened ⟨Nat.le_of_ble_eq_true rfl, Nat.le_of_ble_eq_true rfl⟩) rfl rfl rfl hl.1 rfl (Nat.le_of_ble_eq_true rfl) dL_succeeds_3 ⟨Nat.zero_le _, Nat.zero_le _⟩ (fun H locs hP hD hS => ?_)
  replace hP : va_P D vwCl [(A_p0_history, .inr (1, [.ref A_p0_history_boards, .int V_p0_history_oldest, .int V_p0_history_saved])), (A_p0_board_owners, .inl (cI, 12, .inl V_p0_board_owners)), (A_p0, .inr (4, [.ref A_p0_opening, .ref A_p0_board, .ref A_p0_trialOpening, .ref A_p0_trial, .ref A_p0_history, .ref A_p0_snapshot, .int V_p0_hasSnapshot, .ref A_p0_text])), (A_p0_board, .inr (0, [.ref A_p0_board_numbers, .ref A_p0_board_owners, .ref A_p0_board_cells])), (A_p0_board_numbers, .inl (cI, 10, .inl V_p0_board_numbers)), (A_p0_opening, .inr (2, [.ref A_p0_board, .ref A_p0_opening_cut, .ref A_p0_opening_counts, .ref A_p0_opening_strength, .ref A_p0_opening_reason, .ref A_p0_opening_driver, .ref A_p0_opening_waits, .ref A_p0_opening_stands])), (A_p0_board_cells, .inl (cI, 63, .inl V_p0_board_cells)), (A_p0_opening_cut, .inl (cI, 9, .inl f2)), (A_p0_opening_counts, .inl (cI, 9, .inl f3)), (A_p0_opening_strength, .inl (cI, 9, .inl f4)), (A_p0_opening_reason, .inl (cI, 9, .inl f5)), (A_p0_opening_driver, .inl (cI, 9, .inl f6)), (A_p0_opening_waits, .inl (cI, 9, .inl f7)), (A_p0_opening_stands, .inl (cI, 9, .inl f8))] H := hP
  replace hD : va_D A [(A_p0_history, .inr (1, [.ref A_p0_history_boards, .int V_p0_history_oldest, .int V_p0_history_saved])), (A_p0_board_owners, .inl (cI, 12, .inl V_p0_board_owners)), (A_p0, .inr (4, [.ref A_p0_opening, .ref A_p0_board, .ref A_p0_trialOpening, .ref A_p0_trial, .ref A_p0_history, .ref A_p0_snapshot, .int V_p0_hasSnapshot, .ref A_p0_text])), (A_p0_board, .inr (0, [.ref A_p0_board_numbers, .ref A_p0_board_owners, .ref A_p0_board_cells])), (A_p0_board_numbers, .inl (cI, 10, .inl V_p0_board_numbers)), (A_p0_opening, .inr (2, [.ref A_p0_board, .ref A_p0_opening_cut, .ref A_p0_opening_counts, .ref A_p0_opening_strength, .ref A_p0_opening_reason, .ref A_p0_opening_driver, .ref A_p0_opening_waits, .ref A_p0_opening_stands])), (A_p0_board_cells, .inl (cI, 63, .inl V_p0_board_cells)), (A_p0_opening_cut, .inl (cI, 9, .inl f2)), (A_p0_opening_counts, .inl (cI, 9, .inl f3)), (A_p0_opening_strength, .inl (cI, 9, .inl f4)), (A_p0_opening_reason, .inl (cI, 9, .inl f5)), (A_p0_opening_driver, .inl (cI, 9, .inl f6)), (A_p0_opening_waits, .inl (cI, 9, .inl f7)), (A_p0_opening_stands, .inl (cI, 9, .inl f8))] := hD
  refine lv_istore_n (lv' := [(3, .int v9), (0, .ref A_p0), (1, .int x2), (2, .int x3)]) hx hb dL_succeeds_6 rfl hl (by decide) rfl (fun ls hl => ?_)
  refine lv_iconst (v := 1) hx hb dL_succeeds_7 (by decide) ?_
  refine lv_istore (lv' := [(4, .int 1), (3, .int v9), (0, .ref A_p0), (1, .int x2), (2, .int x3)]) hx hb dL_succeeds_8 hl (by decide) rfl (fun ls hl => ?_)
  refine lv_iconst (v := 0) hx hb dL_succeeds_10 (by decide) ?_
  refine lv_istore (lv' := [(5, .int 0), (4, .int 1), (3, .int v9), (0, .ref A_p0), (1, .int x2), (2, .int x3)]) hx hb dL_succeeds_11 hl (by decide) rfl (fun ls hl => ?_)
  obtain ⟨v43, f44, f45, f46, f47, f48, f49, f50, hL, hg⟩ := b8_ex hg
  have kx : bo v43 → ∀ (H : Heap) (locs : List Loc), va_P D vwCl [(A_p0_history, .inr (1, [.ref A_p0_history_boards, .int V_p0_history_oldest, .int V_p0_history_saved])), (A_p0_board_owners, .inl (cI, 12, .inl V_p0_board_owners)), (A_p0, .inr (4, [.ref A_p0_opening, .ref A_p0_board, .ref A_p0_trialOpening, .ref A_p0_trial, .ref A_p0_history, .ref A_p0_snapshot, .int V_p0_hasSnapshot, .ref A_p0_text])), (A_p0_board, .inr (0, [.ref A_p0_board_numbers, .ref A_p0_board_owners, .ref A_p0_board_cells])), (A_p0_board_numbers, .inl (cI, 10, .inl V_p0_board_numbers)), (A_p0_opening, .inr (2, [.ref A_p0_board, .ref A_p0_opening_cut, .ref A_p0_opening_counts, .ref A_p0_opening_strength, .ref A_p0_opening_reason, .ref A_p0_opening_driver, .ref A_p0_opening_waits, .ref A_p0_opening_stands])), (A_p0_board_cells, .inl (cI, 63, .inl V_p0_board_cells)), (A_p0_opening_cut, .inl (cI, 9, .inl f45)), (A_p0_opening_counts, .inl (cI, 9, .inl f44)), (A_p0_opening_strength, .inl (cI, 9, .inl f49)), (A_p0_opening_reason, .inl (cI, 9, .inl f47)), (A_p0_opening_driver, .inl (cI, 9, .inl f46)), (A_p0_opening_waits, .inl (cI, 9, .inl f50)), (A_p0_opening_stands, .inl (cI, 9, .inl f48))] H → va_D A [(A_p0_history, .inr (1, [.ref A_p0_history_boards, .int V_p0_history_oldest, .int V_p0_history_saved])), (A_p0_board_owners, .inl (cI, 12, .inl V_p0_board_owners)), (A_p0, .inr (4, [.ref A_p0_opening, .ref A_p0_board, .ref A_p0_trialOpening, .ref A_p0_trial, .ref A_p0_history, .ref A_p0_snapshot, .int V_p0_hasSnapshot, .ref A_p0_text])), (A_p0_board, .inr (0, [.ref A_p0_board_numbers, .ref A_p0_board_owners, .ref A_p0_board_cells])), (A_p0_board_numbers, .inl (cI, 10, .inl V_p0_board_numbers)), (A_p0_opening, .inr (2, [.ref A_p0_board, .ref A_p0_opening_cut, .ref A_p0_opening_counts, .ref A_p0_opening_strength, .ref A_p0_opening_reason, .ref A_p0_opening_driver, .ref A_p0_opening_waits, .ref A_p0_opening_stands])), (A_p0_board_cells, .inl (cI, 63, .inl V_p0_board_cells)), (A_p0_opening_cut, .inl (cI, 9, .inl f45)), (A_p0_opening_counts, .inl (cI, 9, .inl f44)), (A_p0_opening_strength, .inl (cI, 9, .inl f49)), (A_p0_opening_reason, .inl (cI, 9, .inl f47)), (A_p0_opening_driver, .inl (cI, 9, .inl f46)), (A_p0_opening_waits, .inl (cI, 9, .inl f50)), (A_p0_opening_stands, .inl (cI, 9, .inl f48))] → va_S A s.heap H locs → ∀ ls : Array Slot, lv_has ls 7 [(4, .int v43), (3, .int v9), (0, .ref A_p0), (1, .int x2), (2, .int x3)] → W p l e rL_succeeds s m args below meth c H locs 0 0 Q (F0 m 91 ls []) := by
    intro hz_v43 H locs hP hD hS ls hl
    refine lv_aload_n hx hb dL_succeeds_91 rfl (lv_at hl 2 rfl) ?_
    refine lv_iload_n hx hb dL_succeeds_92 rfl (lv_at hl 4 rfl) ?_
    refine lv_iconst (v := 0) hx hb dL_succeeds_93 (by decide) ?_
    obtain ⟨k51, v52, hq, hg⟩ := b2_ex hg
    have hk := (nz0_ex hg).1
    replace hg := (nz0_ex hg).2
    subst hk
    refine callRVi (As := [.int x3, .int 0]) (rest := []) S hK hP (c_X4_field l D cI cZ cB cJ A_p0 A_p0_opening A_p0_board A_p0_trialOpening A_p0_trial A_p0_history A_p0_snapshot A_p0_text A_p0_board_numbers A_p0_board_owners A_p0_board_cells V_p0_hasSnapshot V_p0_board_numbers V_p0_board_cells V_p0_board_owners x3 0 v52 hq) [2, 3, 4, 6, 1] rfl (cwV 2 hts gL_succeeds_X4_field rfl rfl rfl hd_X4_field ⟨Nat.le_of_ble_eq_true rfl, Nat.le_of_ble_eq_true rfl⟩) rfl rfl rfl hl.1 rfl (Nat.le_of_ble_eq_true rfl) dL_succeeds_94 ⟨Nat.zero_le _, Nat.zero_le _⟩ ?_
    refine lv_istore (lv' := [(5, .int v52), (4, .int v43), (3, .int v9), (0, .ref A_p0), (1, .int x2), (2, .int x3)]) hx hb dL_succeeds_97 hl (by decide) rfl (fun ls hl => ?_)
    refine lv_iload hx hb dL_succeeds_99 (lv_at hl 0 rfl) ?_
    have hJ1 : ∀ (v64 : Int32) (f65 : Nat → Int32) (f66 : Nat → Int32) (f67 : Nat → Int32) (f68 : Nat → Int32) (f69 : Nat → Int32) (f70 : Nat → Int32) (f71 : Nat → Int32), bo v64 → ∀ (H : Heap) (locs : List Loc), va_P D vwCl [(A_p0_history, .inr (1, [.ref A_p0_history_boards, .int V_p0_history_oldest, .int V_p0_history_saved])), (A_p0_board_owners, .inl (cI, 12, .inl V_p0_board_owners)), (A_p0, .inr (4, [.ref A_p0_opening, .ref A_p0_board, .ref A_p0_trialOpening, .ref A_p0_trial, .ref A_p0_history, .ref A_p0_snapshot, .int V_p0_hasSnapshot, .ref A_p0_text])), (A_p0_board, .inr (0, [.ref A_p0_board_numbers, .ref A_p0_board_owners, .ref A_p0_board_cells])), (A_p0_board_numbers, .inl (cI, 10, .inl V_p0_board_numbers)), (A_p0_opening, .inr (2, [.ref A_p0_board, .ref A_p0_opening_cut, .ref A_p0_opening_counts, .ref A_p0_opening_strength, .ref A_p0_opening_reason, .ref A_p0_opening_driver, .ref A_p0_opening_waits, .ref A_p0_opening_stands])), (A_p0_board_cells, .inl (cI, 63, .inl V_p0_board_cells)), (A_p0_opening_cut, .inl (cI, 9, .inl f65)), (A_p0_opening_counts, .inl (cI, 9, .inl f66)), (A_p0_opening_strength, .inl (cI, 9, .inl f67)), (A_p0_opening_reason, .inl (cI, 9, .inl f68)), (A_p0_opening_driver, .inl (cI, 9, .inl f69)), (A_p0_opening_waits, .inl (cI, 9, .inl f70)), (A_p0_opening_stands, .inl (cI, 9, .inl f71))] H → va_D A [(A_p0_history, .inr (1, [.ref A_p0_history_boards, .int V_p0_history_oldest, .int V_p0_history_saved])), (A_p0_board_owners, .inl (cI, 12, .inl V_p0_board_owners)), (A_p0, .inr (4, [.ref A_p0_opening, .ref A_p0_board, .ref A_p0_trialOpening, .ref A_p0_trial, .ref A_p0_history, .ref A_p0_snapshot, .int V_p0_hasSnapshot, .ref A_p0_text])), (A_p0_board, .inr (0, [.ref A_p0_board_numbers, .ref A_p0_board_owners, .ref A_p0_board_cells])), (A_p0_board_numbers, .inl (cI, 10, .inl V_p0_board_numbers)), (A_p0_opening, .inr (2, [.ref A_p0_board, .ref A_p0_opening_cut, .ref A_p0_opening_counts, .ref A_p0_opening_strength, .ref A_p0_opening_reason, .ref A_p0_opening_driver, .ref A_p0_opening_waits, .ref A_p0_opening_stands])), (A_p0_board_cells, .inl (cI, 63, .inl V_p0_board_cells)), (A_p0_opening_cut, .inl (cI, 9, .inl f65)), (A_p0_opening_counts, .inl (cI, 9, .inl f66)), (A_p0_opening_strength, .inl (cI, 9, .inl f67)), (A_p0_opening_reason, .inl (cI, 9, .inl f68)), (A_p0_opening_driver, .inl (cI, 9, .inl f69)), (A_p0_opening_waits, .inl (cI, 9, .inl f70)), (A_p0_opening_stands, .inl (cI, 9, .inl f71))] → va_S A s.heap H locs → ∀ ls : Array Slot, lv_has ls 7 [(5, .int v52), (4, .int v43), (3, .int v9), (0, .ref A_p0), (1, .int x2)] → g_L_succeeds_J1 v43 v52 V_p0_board_numbers V_p0_board_cells x2 v9 v64 f65 f66 f67 f68 f69 f70 f71 = some (r0, w1, w2, w3, w4, w5, w6, w7) → W p l e rL_succeeds s m args below meth c H locs 0 0 Q (F0 m 130 ls [.int v64]) := by
      intro v64 f65 f66 f67 f68 f69 f70 f71 hz_v64 H locs hP hD hS ls hl hg
      unfold g_L_succeeds_J1 at hg
      refine lv_istore (lv' := [(6, .int v64), (5, .int v52), (4, .int v43), (3, .int v9), (0, .ref A_p0), (1, .int x2)]) hx hb dL_succeeds_130 hl (by decide) rfl (fun ls hl => ?_)
      refine lv_iload hx hb dL_succeeds_132 (lv_at hl 2 rfl) ?_
      refine lv_if_eq (tgt := 204) hx hb dL_succeeds_134 (by decide) (fun hc => ?_) (fun hc => ?_)
      · replace hg := if_yes hg hc
        refine lv_iconst (v := 0) hx hb dL_succeeds_204 (by decide) ?_
        exact fin _ (Option.some.inj hg) _ _ _ _ bo_0 dL_succeeds_205 (hP.sub [2, 3, 4, 5, 6, 7, 8, 9, 10, 11, 12, 13, 0, 1] rfl) (hD.sub [2, 3, 4, 5, 6, 7, 8, 9, 10, 11, 12, 13, 0, 1] (by decide) rfl) hS
      · replace hg := if_no hg hc
        refine lv_iload hx hb dL_succeeds_137 (lv_at hl 1 rfl) ?_
        refine lv_if_lt (tgt := 200) hx hb dL_succeeds_139 (by decide) (fun hc => ?_) (fun hc => ?_)
        · replace hg := if_yes hg hc
          refine lv_iconst (v := 1) hx hb dL_succeeds_200 (by decide) ?_
          refine lv_goto (tgt := 205) hx hb dL_succeeds_201 (by decide) ?_
          exact fin _ (Option.some.inj hg) _ _ _ _ bo_1 dL_succeeds_205 (hP.sub [2, 3, 4, 5, 6, 7, 8, 9, 10, 11, 12, 13, 0, 1] rfl) (hD.sub [2, 3, 4, 5, 6, 7, 8, 9, 10, 11, 12, 13, 0, 1] (by decide) rfl) hS
        · replace hg := if_no hg hc
          refine lv_iload hx hb dL_succeeds_142 (lv_at hl 0 rfl) ?_
          refine lv_if_ne (tgt := 200) hx hb dL_succeeds_144 (by decide) (fun hc => ?_) (fun hc => ?_)
          · replace hg := if_no hg hc
            refine lv_iconst (v := 1) hx hb dL_succeeds_200 (by decide) ?_
            refine lv_goto (tgt := 205) hx hb dL_succeeds_201 (by decide) ?_
            exact fin _ (Option.some.inj hg) _ _ _ _ bo_1 dL_succeeds_205 (hP.sub [2, 3, 4, 5, 6, 7, 8, 9, 10, 11, 12, 13, 0, 1] rfl) (hD.sub [2, 3, 4, 5, 6, 7, 8, 9, 10, 11, 12, 13, 0, 1] (by decide) rfl) hS
          · replace hg := if_yes hg hc
            refine lv_aload_n hx hb dL_succeeds_147 rfl (lv_at hl 4 rfl) ?_
            refine lv_iload hx hb dL_succeeds_148 (lv_at hl 1 rfl) ?_
            refine lv_iconst (v := 3) hx hb dL_succeeds_150 (by decide) ?_
            obtain ⟨k72, v80, f73, f74, f75, f76, f77, f78, f79, hq, hg⟩ := b9_ex hg
            have hk := (nz0_ex hg).1
            replace hg := (nz0_ex hg).2
            subst hk
            refine callWV (As := [.int v52, .int 3]) (rest := []) (wr := [(A_p0_history, .inr (1, [.ref A_p0_history_boards, .int V_p0_history_oldest, .int V_p0_history_saved])), (A_p0_board_owners, .inl (cI, 12, .inl V_p0_board_owners))]) S hK hP hD hS hA (c_X4_ifOpened l D cI cZ cB cJ A_p0 A_p0_opening A_p0_board A_p0_trialOpening A_p0_trial A_p0_history A_p0_snapshot A_p0_text A_p0_board_numbers A_p0_board_owners A_p0_board_cells A_p0_opening_cut A_p0_opening_counts A_p0_opening_strength A_p0_opening_reason A_p0_opening_driver A_p0_opening_waits A_p0_opening_stands _ V_p0_hasSnapshot V_p0_board_numbers V_p0_board_cells f65 f66 f67 f68 f69 f70 f71 v52 3 v80 f73 f74 f75 f76 f77 f78 f79 hq) [2, 3, 4, 5, 6, 7, 8, 9, 10, 11, 12, 13] [0, 1] rfl rfl (by decide +kernel) (by decide +kernel) (by decide +kernel) (cwV 2 hts gL_succeeds_X4_ifOpened rfl rfl rfl hd_X4_ifOpened ⟨Nat.le_of_ble_eq_true rfl, Nat.le_of_ble_eq_true rfl⟩) rfl rfl rfl hl.1 rfl (Nat.le_of_ble_eq_true rfl) dL_succeeds_151 ⟨Nat.zero_le _, Nat.zero_le _⟩ (fun H locs hP hD hS => ?_)
            replace hP : va_P D vwCl [(A_p0_history, .inr (1, [.ref A_p0_history_boards, .int V_p0_history_oldest, .int V_p0_history_saved])), (A_p0_board_owners, .inl (cI, 12, .inl V_p0_board_owners)), (A_p0, .inr (4, [.ref A_p0_opening, .ref A_p0_board, .ref A_p0_trialOpening, .ref A_p0_trial, .ref A_p0_history, .ref A_p0_snapshot, .int V_p0_hasSnapshot, .ref A_p0_text])), (A_p0_board, .inr (0, [.ref A_p0_board_numbers, .ref A_p0_board_owners, .ref A_p0_board_cells])), (A_p0_board_numbers, .inl (cI, 10, .inl V_p0_board_numbers)), (A_p0_opening, .inr (2, [.ref A_p0_board, .ref A_p0_opening_cut, .ref A_p0_opening_counts, .ref A_p0_opening_strength, .ref A_p0_opening_reason, .ref A_p0_opening_driver, .ref A_p0_opening_waits, .ref A_p0_opening_stands])), (A_p0_board_cells, .inl (cI, 63, .inl V_p0_board_cells)), (A_p0_opening_cut, .inl (cI, 9, .inl f73)), (A_p0_opening_counts, .inl (cI, 9, .inl f74)), (A_p0_opening_strength, .inl (cI, 9, .inl f75)), (A_p0_opening_reason, .inl (cI, 9, .inl f76)), (A_p0_opening_driver, .inl (cI, 9, .inl f77)), (A_p0_opening_waits, .inl (cI, 9, .inl f78)), (A_p0_opening_stands, .inl (cI, 9, .inl f79))] H := hP
            replace hD : va_D A [(A_p0_history, .inr (1, [.ref A_p0_history_boards, .int V_p0_history_oldest, .int V_p0_history_saved])), (A_p0_board_owners, .inl (cI, 12, .inl V_p0_board_owners)), (A_p0, .inr (4, [.ref A_p0_opening, .ref A_p0_board, .ref A_p0_trialOpening, .ref A_p0_trial, .ref A_p0_history, .ref A_p0_snapshot, .int V_p0_hasSnapshot, .ref A_p0_text])), (A_p0_board, .inr (0, [.ref A_p0_board_numbers, .ref A_p0_board_owners, .ref A_p0_board_cells])), (A_p0_board_numbers, .inl (cI, 10, .inl V_p0_board_numbers)), (A_p0_opening, .inr (2, [.ref A_p0_board, .ref A_p0_opening_cut, .ref A_p0_opening_counts, .ref A_p0_opening_strength, .ref A_p0_opening_reason, .ref A_p0_opening_driver, .ref A_p0_opening_waits, .ref A_p0_opening_stands])), (A_p0_board_cells, .inl (cI, 63, .inl V_p0_board_cells)), (A_p0_opening_cut, .inl (cI, 9, .inl f73)), (A_p0_opening_counts, .inl (cI, 9, .inl f74)), (A_p0_opening_strength, .inl (cI, 9, .inl f75)), (A_p0_opening_reason, .inl (cI, 9, .inl f76)), (A_p0_opening_driver, .inl (cI, 9, .inl f77)), (A_p0_opening_waits, .inl (cI, 9, .inl f78)), (A_p0_opening_stands, .inl (cI, 9, .inl f79))] := hD
            refine lv_iconst (v := 1) hx hb dL_succeeds_154 (by decide) ?_
            refine lv_icmp_ne (tgt := 204) hx hb dL_succeeds_155 (by decide) (fun hc => ?_) (fun hc => ?_)
            · replace hg := if_no hg hc
              refine lv_iconst (v := 0) hx hb dL_succeeds_204 (by decide) ?_
              exact fin _ (Option.some.inj hg) _ _ _ _ bo_0 dL_succeeds_205 (hP.sub [2, 3, 4, 5, 6, 7, 8, 9, 10, 11, 12, 13, 0, 1] rfl) (hD.sub [2, 3, 4, 5, 6, 7, 8, 9, 10, 11, 12, 13, 0, 1] (by decide) rfl) hS
            · replace hg := if_yes hg hc
              refine lv_aload_n hx hb dL_succeeds_158 rfl (lv_at hl 4 rfl) ?_
              refine lv_iload hx hb dL_succeeds_159 (lv_at hl 1 rfl) ?_
              refine lv_iconst (v := 0) hx hb dL_succeeds_161 (by decide) ?_
              obtain ⟨k81, v82, hq, hg⟩ := b2_ex hg
              have hk := (nz0_ex hg).1
              replace hg := (nz0_ex hg).2
              subst hk
              refine callRVi (As := [.int v52, .int 0]) (rest := []) S hK hP (c_X4_armyOf l D cI cZ cB cJ A_p0 A_p0_opening A_p0_board A_p0_trialOpening A_p0_trial A_p0_history A_p0_snapshot A_p0_text A_p0_board_numbers A_p0_board_owners A_p0_board_cells V_p0_hasSnapshot V_p0_board_numbers V_p0_board_cells v52 0 v82 hq) [2, 3, 4, 6] rfl (cwV 2 hts gL_succeeds_X4_armyOf rfl rfl rfl hd_X4_armyOf ⟨Nat.le_of_ble_eq_true rfl, Nat.le_of_ble_eq_true rfl⟩) rfl rfl rfl hl.1 rfl (Nat.le_of_ble_eq_true rfl) dL_succeeds_162 ⟨Nat.zero_le _, Nat.zero_le _⟩ ?_
              refine lv_aload_n hx hb dL_succeeds_165 rfl (lv_at hl 4 rfl) ?_
              refine lv_iload_n hx hb dL_succeeds_166 rfl (lv_at hl 5 rfl) ?_
              refine lv_iconst (v := 0) hx hb dL_succeeds_167 (by decide) ?_
              obtain ⟨k83, v84, hq, hg⟩ := b2_ex hg
              have hk := (nz0_ex hg).1
              replace hg := (nz0_ex hg).2
              subst hk
              refine callRVi (As := [.int x2, .int 0]) (rest := [.int v82]) S hK hP (c_X4_armyOf l D cI cZ cB cJ A_p0 A_p0_opening A_p0_board A_p0_trialOpening A_p0_trial A_p0_history A_p0_snapshot A_p0_text A_p0_board_numbers A_p0_board_owners A_p0_board_cells V_p0_hasSnapshot V_p0_board_numbers V_p0_board_cells x2 0 v84 hq) [2, 3, 4, 6] rfl (cwV 2 hts gL_succeeds_X4_armyOf rfl rfl rfl hd_X4_armyOf ⟨Nat.le_of_ble_eq_true rfl, Nat.le_of_ble_eq_true rfl⟩) rfl rfl rfl hl.1 rfl (Nat.le_of_ble_eq_true rfl) dL_succeeds_168 ⟨Nat.zero_le _, Nat.zero_le _⟩ ?_
              refine lv_icmp_eq (tgt := 204) hx hb dL_succeeds_171 (by decide) (fun hc => ?_) (fun hc => ?_)
              · replace hg := if_yes hg hc
                refine lv_iconst (v := 0) hx hb dL_succeeds_204 (by decide) ?_
                exact fin _ (Option.some.inj hg) _ _ _ _ bo_0 dL_succeeds_205 (hP.sub [2, 3, 4, 5, 6, 7, 8, 9, 10, 11, 12, 13, 0, 1] rfl) (hD.sub [2, 3, 4, 5, 6, 7, 8, 9, 10, 11, 12, 13, 0, 1] (by decide) rfl) hS
              · replace hg := if_no hg hc
                refine lv_iload_n hx hb dL_succeeds_174 rfl (lv_at hl 3 rfl) ?_
                refine lv_aload_n hx hb dL_succeeds_175 rfl (lv_at hl 4 rfl) ?_
                refine lv_iload hx hb dL_succeeds_176 (lv_at hl 1 rfl) ?_
                refine lv_iconst (v := 2) hx hb dL_succeeds_178 (by decide) ?_
                obtain ⟨k85, v86, hq, hg⟩ := b2_ex hg
                have hk := (nz0_ex hg).1
                replace hg := (nz0_ex hg).2
                subst hk
                refine callRVi (As := [.int v52, .int 2]) (rest := [.int v9]) S hK hP (c_X4_armyOf l D cI cZ cB cJ A_p0 A_p0_opening A_p0_board A_p0_trialOpening A_p0_trial A_p0_history A_p0_snapshot A_p0_text A_p0_board_numbers A_p0_board_owners A_p0_board_cells V_p0_hasSnapshot V_p0_board_numbers V_p0_board_cells v52 2 v86 hq) [2, 3, 4, 6] rfl (cwV 2 hts gL_succeeds_X4_armyOf rfl rfl rfl hd_X4_armyOf ⟨Nat.le_of_ble_eq_true rfl, Nat.le_of_ble_eq_true rfl⟩) rfl rfl rfl hl.1 rfl (Nat.le_of_ble_eq_true rfl) dL_succeeds_179 ⟨Nat.zero_le _, Nat.zero_le _⟩ ?_
                refine lv_iconst (v := 1) hx hb dL_succeeds_182 (by decide) ?_
                have hJ2 : ∀ (v96 : Int32) (f97 : Nat → Int32) (f98 : Nat → Int32) (f99 : Nat → Int32) (f100 : Nat → Int32) (f101 : Nat → Int32) (f102 : Nat → Int32) (f103 : Nat → Int32), ∀ (H : Heap) (locs : List Loc), va_P D vwCl [(A_p0_history, .inr (1, [.ref A_p0_history_boards, .int V_p0_history_oldest, .int V_p0_history_saved])), (A_p0_board_owners, .inl (cI, 12, .inl V_p0_board_owners)), (A_p0, .inr (4, [.ref A_p0_opening, .ref A_p0_board, .ref A_p0_trialOpening, .ref A_p0_trial, .ref A_p0_history, .ref A_p0_snapshot, .int V_p0_hasSnapshot, .ref A_p0_text])), (A_p0_board, .inr (0, [.ref A_p0_board_numbers, .ref A_p0_board_owners, .ref A_p0_board_cells])), (A_p0_board_numbers, .inl (cI, 10, .inl V_p0_board_numbers)), (A_p0_opening, .inr (2, [.ref A_p0_board, .ref A_p0_opening_cut, .ref A_p0_opening_counts, .ref A_p0_opening_strength, .ref A_p0_opening_reason, .ref A_p0_opening_driver, .ref A_p0_opening_waits, .ref A_p0_opening_stands])), (A_p0_board_cells, .inl (cI, 63, .inl V_p0_board_cells)), (A_p0_opening_cut, .inl (cI, 9, .inl f97)), (A_p0_opening_counts, .inl (cI, 9, .inl f98)), (A_p0_opening_strength, .inl (cI, 9, .inl f99)), (A_p0_opening_reason, .inl (cI, 9, .inl f100)), (A_p0_opening_driver, .inl (cI, 9, .inl f101)), (A_p0_opening_waits, .inl (cI, 9, .inl f102)), (A_p0_opening_stands, .inl (cI, 9, .inl f103))] H → va_D A [(A_p0_history, .inr (1, [.ref A_p0_history_boards, .int V_p0_history_oldest, .int V_p0_history_saved])), (A_p0_board_owners, .inl (cI, 12, .inl V_p0_board_owners)), (A_p0, .inr (4, [.ref A_p0_opening, .ref A_p0_board, .ref A_p0_trialOpening, .ref A_p0_trial, .ref A_p0_history, .ref A_p0_snapshot, .int V_p0_hasSnapshot, .ref A_p0_text])), (A_p0_board, .inr (0, [.ref A_p0_board_numbers, .ref A_p0_board_owners, .ref A_p0_board_cells])), (A_p0_board_numbers, .inl (cI, 10, .inl V_p0_board_numbers)), (A_p0_opening, .inr (2, [.ref A_p0_board, .ref A_p0_opening_cut, .ref A_p0_opening_counts, .ref A_p0_opening_strength, .ref A_p0_opening_reason, .ref A_p0_opening_driver, .ref A_p0_opening_waits, .ref A_p0_opening_stands])), (A_p0_board_cells, .inl (cI, 63, .inl V_p0_board_cells)), (A_p0_opening_cut, .inl (cI, 9, .inl f97)), (A_p0_opening_counts, .inl (cI, 9, .inl f98)), (A_p0_opening_strength, .inl (cI, 9, .inl f99)), (A_p0_opening_reason, .inl (cI, 9, .inl f100)), (A_p0_opening_driver, .inl (cI, 9, .inl f101)), (A_p0_opening_waits, .inl (cI, 9, .inl f102)), (A_p0_opening_stands, .inl (cI, 9, .inl f103))] → va_S A s.heap H locs → ∀ ls : Array Slot, lv_has ls 7 [] → g_L_succeeds_J2 v9 v96 f97 f98 f99 f100 f101 f102 f103 = some (r0, w1, w2, w3, w4, w5, w6, w7) → W p l e rL_succeeds s m args below meth c H locs 0 0 Q (F0 m 197 ls [.int v96, .int v9]) := by
                  intro v96 f97 f98 f99 f100 f101 f102 f103 H locs hP hD hS ls hl hg
                  unfold g_L_succeeds_J2 at hg
                  refine lv_icmp_le (tgt := 204) hx hb dL_succeeds_197 (by decide) (fun hc => ?_) (fun hc => ?_)
                  · replace hg := if_yes hg hc
                    refine lv_iconst (v := 0) hx hb dL_succeeds_204 (by decide) ?_
                    exact fin _ (Option.some.inj hg) _ _ _ _ bo_0 dL_succeeds_205 (hP.sub [2, 3, 4, 5, 6, 7, 8, 9, 10, 11, 12, 13, 0, 1] rfl) (hD.sub [2, 3, 4, 5, 6, 7, 8, 9, 10, 11, 12, 13, 0, 1] (by decide) rfl) hS
                  · replace hg := if_no hg hc
                    refine lv_iconst (v := 1) hx hb dL_succeeds_200 (by decide) ?_
                    refine lv_goto (tgt := 205) hx hb dL_succeeds_201 (by decide) ?_
                    exact fin _ (Option.some.inj hg) _ _ _ _ bo_1 dL_succeeds_205 (hP.sub [2, 3, 4, 5, 6, 7, 8, 9, 10, 11, 12, 13, 0, 1] rfl) (hD.sub [2, 3, 4, 5, 6, 7, 8, 9, 10, 11, 12, 13, 0, 1] (by decide) rfl) hS
                refine lv_icmp_ne (tgt := 190) hx hb dL_succeeds_183 (by decide) (fun hc => ?_) (fun hc => ?_)
                · replace hg := if_no hg hc
                  refine lv_aload_n hx hb dL_succeeds_190 rfl (lv_at hl 4 rfl) ?_
                  refine lv_iload hx hb dL_succeeds_191 (lv_at hl 1 rfl) ?_
                  refine lv_iconst (v := 1) hx hb dL_succeeds_193 (by decide) ?_
                  obtain ⟨k87, v95, f88, f89, f90, f91, f92, f93, f94, hq, hg⟩ := b9_ex hg
                  have hk := (nz0_ex hg).1
                  replace hg := (nz0_ex hg).2
                  subst hk
                  refine callWV (As := [.int v52, .int 1]) (rest := [.int v9]) (wr := [(A_p0_history, .inr (1, [.ref A_p0_history_boards, .int V_p0_history_oldest, .int V_p0_history_saved])), (A_p0_board_owners, .inl (cI, 12, .inl V_p0_board_owners))]) S hK hP hD hS hA (c_X4_ifOpened l D cI cZ cB cJ A_p0 A_p0_opening A_p0_board A_p0_trialOpening A_p0_trial A_p0_history A_p0_snapshot A_p0_text A_p0_board_numbers A_p0_board_owners A_p0_board_cells A_p0_opening_cut A_p0_opening_counts A_p0_opening_strength A_p0_opening_reason A_p0_opening_driver A_p0_opening_waits A_p0_opening_stands _ V_p0_hasSnapshot V_p0_board_numbers V_p0_board_cells f73 f74 f75 f76 f77 f78 f79 v52 1 v95 f88 f89 f90 f91 f92 f93 f94 hq) [2, 3, 4, 5, 6, 7, 8, 9, 10, 11, 12, 13] [0, 1] rfl rfl (by decide +kernel) (by decide +kernel) (by decide +kernel) (cwV 2 hts gL_succeeds_X4_ifOpened rfl rfl rfl hd_X4_ifOpened ⟨Nat.le_of_ble_eq_true rfl, Nat.le_of_ble_eq_true rfl⟩) rfl rfl rfl hl.1 rfl (Nat.le_of_ble_eq_true rfl) dL_succeeds_194 ⟨Nat.zero_le _, Nat.zero_le _⟩ (fun H locs hP hD hS => ?_)
                  replace hP : va_P D vwCl [(A_p0_history, .inr (1, [.ref A_p0_history_boards, .int V_p0_history_oldest, .int V_p0_history_saved])), (A_p0_board_owners, .inl (cI, 12, .inl V_p0_board_owners)), (A_p0, .inr (4, [.ref A_p0_opening, .ref A_p0_board, .ref A_p0_trialOpening, .ref A_p0_trial, .ref A_p0_history, .ref A_p0_snapshot, .int V_p0_hasSnapshot, .ref A_p0_text])), (A_p0_board, .inr (0, [.ref A_p0_board_numbers, .ref A_p0_board_owners, .ref A_p0_board_cells])), (A_p0_board_numbers, .inl (cI, 10, .inl V_p0_board_numbers)), (A_p0_opening, .inr (2, [.ref A_p0_board, .ref A_p0_opening_cut, .ref A_p0_opening_counts, .ref A_p0_opening_strength, .ref A_p0_opening_reason, .ref A_p0_opening_driver, .ref A_p0_opening_waits, .ref A_p0_opening_stands])), (A_p0_board_cells, .inl (cI, 63, .inl V_p0_board_cells)), (A_p0_opening_cut, .inl (cI, 9, .inl f88)), (A_p0_opening_counts, .inl (cI, 9, .inl f89)), (A_p0_opening_strength, .inl (cI, 9, .inl f90)), (A_p0_opening_reason, .inl (cI, 9, .inl f91)), (A_p0_opening_driver, .inl (cI, 9, .inl f92)), (A_p0_opening_waits, .inl (cI, 9, .inl f93)), (A_p0_opening_stands, .inl (cI, 9, .inl f94))] H := hP
                  replace hD : va_D A [(A_p0_history, .inr (1, [.ref A_p0_history_boards, .int V_p0_history_oldest, .int V_p0_history_saved])), (A_p0_board_owners, .inl (cI, 12, .inl V_p0_board_owners)), (A_p0, .inr (4, [.ref A_p0_opening, .ref A_p0_board, .ref A_p0_trialOpening, .ref A_p0_trial, .ref A_p0_history, .ref A_p0_snapshot, .int V_p0_hasSnapshot, .ref A_p0_text])), (A_p0_board, .inr (0, [.ref A_p0_board_numbers, .ref A_p0_board_owners, .ref A_p0_board_cells])), (A_p0_board_numbers, .inl (cI, 10, .inl V_p0_board_numbers)), (A_p0_opening, .inr (2, [.ref A_p0_board, .ref A_p0_opening_cut, .ref A_p0_opening_counts, .ref A_p0_opening_strength, .ref A_p0_opening_reason, .ref A_p0_opening_driver, .ref A_p0_opening_waits, .ref A_p0_opening_stands])), (A_p0_board_cells, .inl (cI, 63, .inl V_p0_board_cells)), (A_p0_opening_cut, .inl (cI, 9, .inl f88)), (A_p0_opening_counts, .inl (cI, 9, .inl f89)), (A_p0_opening_strength, .inl (cI, 9, .inl f90)), (A_p0_opening_reason, .inl (cI, 9, .inl f91)), (A_p0_opening_driver, .inl (cI, 9, .inl f92)), (A_p0_opening_waits, .inl (cI, 9, .inl f93)), (A_p0_opening_stands, .inl (cI, 9, .inl f94))] := hD
                  exact hJ2 _ _ _ _ _ _ _ _ _ _ hP hD hS _ (lv_sub hl [] rfl) hg
                · replace hg := if_yes hg hc
                  refine lv_iconst (v := 1) hx hb dL_succeeds_186 (by decide) ?_
                  refine lv_goto (tgt := 197) hx hb dL_succeeds_187 (by decide) ?_
                  exact hJ2 _ _ _ _ _ _ _ _ _ _ hP hD hS _ (lv_sub hl [] rfl) hg
    refine lv_if_lt (tgt := 129) hx hb dL_succeeds_101 (by decide) (fun hc => ?_) (fun hc => ?_)
    · replace hg := if_yes hg hc
      refine lv_iconst (v := 0) hx hb dL_succeeds_129 (by decide) ?_
      exact hJ1 _ _ _ _ _ _ _ _ bo_0 _ _ hP hD hS _ (lv_sub hl [0, 1, 2, 3, 4] rfl) hg
    · replace hg := if_no hg hc
      refine lv_aload_n hx hb dL_succeeds_104 rfl (lv_at hl 3 rfl) ?_
      refine lv_iload hx hb dL_succeeds_105 (lv_at hl 0 rfl) ?_
      refine lv_iconst (v := 2) hx hb dL_succeeds_107 (by decide) ?_
      obtain ⟨k53, v54, hq, hg⟩ := b2_ex hg
      have hk := (nz0_ex hg).1
      replace hg := (nz0_ex hg).2
      subst hk
      refine callRVi (As := [.int v52, .int 2]) (rest := []) S hK hP (c_X4_armyOf l D cI cZ cB cJ A_p0 A_p0_opening A_p0_board A_p0_trialOpening A_p0_trial A_p0_history A_p0_snapshot A_p0_text A_p0_board_numbers A_p0_board_owners A_p0_board_cells V_p0_hasSnapshot V_p0_board_numbers V_p0_board_cells v52 2 v54 hq) [2, 3, 4, 6] rfl (cwV 2 hts gL_succeeds_X4_armyOf rfl rfl rfl hd_X4_armyOf ⟨Nat.le_of_ble_eq_true rfl, Nat.le_of_ble_eq_true rfl⟩) rfl rfl rfl hl.1 rfl (Nat.le_of_ble_eq_true rfl) dL_succeeds_108 ⟨Nat.zero_le _, Nat.zero_le _⟩ ?_
      refine lv_iconst (v := 1) hx hb dL_succeeds_111 (by decide) ?_
      refine lv_icmp_ne (tgt := 129) hx hb dL_succeeds_112 (by decide) (fun hc => ?_) (fun hc => ?_)
      · replace hg := if_no hg hc
        refine lv_iconst (v := 0) hx hb dL_succeeds_129 (by decide) ?_
        exact hJ1 _ _ _ _ _ _ _ _ bo_0 _ _ hP hD hS _ (lv_sub hl [0, 1, 2, 3, 4] rfl) hg
      · replace hg := if_yes hg hc
        refine lv_aload_n hx hb dL_succeeds_115 rfl (lv_at hl 3 rfl) ?_
        refine lv_iload hx hb dL_succeeds_116 (lv_at hl 0 rfl) ?_
        refine lv_iconst (v := 2) hx hb dL_succeeds_118 (by decide) ?_
        obtain ⟨k55, v63, f56, f57, f58, f59, f60, f61, f62, hq, hg⟩ := b9_ex hg
        have hk := (nz0_ex hg).1
        replace hg := (nz0_ex hg).2
        subst hk
        refine callWV (As := [.int v52, .int 2]) (rest := []) (wr := [(A_p0_history, .inr (1, [.ref A_p0_history_boards, .int V_p0_history_oldest, .int V_p0_history_saved])), (A_p0_board_owners, .inl (cI, 12, .inl V_p0_board_owners))]) S hK hP hD hS hA (c_X4_ifOpened l D cI cZ cB cJ A_p0 A_p0_opening A_p0_board A_p0_trialOpening A_p0_trial A_p0_history A_p0_snapshot A_p0_text A_p0_board_numbers A_p0_board_owners A_p0_board_cells A_p0_opening_cut A_p0_opening_counts A_p0_opening_strength A_p0_opening_reason A_p0_opening_driver A_p0_opening_waits A_p0_opening_stands _ V_p0_hasSnapshot V_p0_board_numbers V_p0_board_cells f45 f44 f49 f47 f46 f50 f48 v52 2 v63 f56 f57 f58 f59 f60 f61 f62 hq) [2, 3, 4, 5, 6, 7, 8, 9, 10, 11, 12, 13] [0, 1] rfl rfl (by decide +kernel) (by decide +kernel) (by decide +kernel) (cwV 2 hts gL_succeeds_X4_ifOpened rfl rfl rfl hd_X4_ifOpened ⟨Nat.le_of_ble_eq_true rfl, Nat.le_of_ble_eq_true rfl⟩) rfl rfl rfl hl.1 rfl (Nat.le_of_ble_eq_true rfl) dL_succeeds_119 ⟨Nat.zero_le _, Nat.zero_le _⟩ (fun H locs hP hD hS => ?_)
        replace hP : va_P D vwCl [(A_p0_history, .inr (1, [.ref A_p0_history_boards, .int V_p0_history_oldest, .int V_p0_history_saved])), (A_p0_board_owners, .inl (cI, 12, .inl V_p0_board_owners)), (A_p0, .inr (4, [.ref A_p0_opening, .ref A_p0_board, .ref A_p0_trialOpening, .ref A_p0_trial, .ref A_p0_history, .ref A_p0_snapshot, .int V_p0_hasSnapshot, .ref A_p0_text])), (A_p0_board, .inr (0, [.ref A_p0_board_numbers, .ref A_p0_board_owners, .ref A_p0_board_cells])), (A_p0_board_numbers, .inl (cI, 10, .inl V_p0_board_numbers)), (A_p0_opening, .inr (2, [.ref A_p0_board, .ref A_p0_opening_cut, .ref A_p0_opening_counts, .ref A_p0_opening_strength, .ref A_p0_opening_reason, .ref A_p0_opening_driver, .ref A_p0_opening_waits, .ref A_p0_opening_stands])), (A_p0_board_cells, .inl (cI, 63, .inl V_p0_board_cells)), (A_p0_opening_cut, .inl (cI, 9, .inl f56)), (A_p0_opening_counts, .inl (cI, 9, .inl f57)), (A_p0_opening_strength, .inl (cI, 9, .inl f58)), (A_p0_opening_reason, .inl (cI, 9, .inl f59)), (A_p0_opening_driver, .inl (cI, 9, .inl f60)), (A_p0_opening_waits, .inl (cI, 9, .inl f61)), (A_p0_opening_stands, .inl (cI, 9, .inl f62))] H := hP
        replace hD : va_D A [(A_p0_history, .inr (1, [.ref A_p0_history_boards, .int V_p0_history_oldest, .int V_p0_history_saved])), (A_p0_board_owners, .inl (cI, 12, .inl V_p0_board_owners)), (A_p0, .inr (4, [.ref A_p0_opening, .ref A_p0_board, .ref A_p0_trialOpening, .ref A_p0_trial, .ref A_p0_history, .ref A_p0_snapshot, .int V_p0_hasSnapshot, .ref A_p0_text])), (A_p0_board, .inr (0, [.ref A_p0_board_numbers, .ref A_p0_board_owners, .ref A_p0_board_cells])), (A_p0_board_numbers, .inl (cI, 10, .inl V_p0_board_numbers)), (A_p0_opening, .inr (2, [.ref A_p0_board, .ref A_p0_opening_cut, .ref A_p0_opening_counts, .ref A_p0_opening_strength, .ref A_p0_opening_reason, .ref A_p0_opening_driver, .ref A_p0_opening_waits, .ref A_p0_opening_stands])), (A_p0_board_cells, .inl (cI, 63, .inl V_p0_board_cells)), (A_p0_opening_cut, .inl (cI, 9, .inl f56)), (A_p0_opening_counts, .inl (cI, 9, .inl f57)), (A_p0_opening_strength, .inl (cI, 9, .inl f58)), (A_p0_opening_reason, .inl (cI, 9, .inl f59)), (A_p0_opening_driver, .inl (cI, 9, .inl f60)), (A_p0_opening_waits, .inl (cI, 9, .inl f61)), (A_p0_opening_stands, .inl (cI, 9, .inl f62))] := hD
        refine lv_if_ne (tgt := 129) hx hb dL_succeeds_122 (by decide) (fun hc => ?_) (fun hc => ?_)
        · replace hg := if_no hg hc
          refine lv_iconst (v := 0) hx hb dL_succeeds_129 (by decide) ?_
          exact hJ1 _ _ _ _ _ _ _ _ bo_0 _ _ hP hD hS _ (lv_sub hl [0, 1, 2, 3, 4] rfl) hg
        · replace hg := if_yes hg hc
          refine lv_iconst (v := 1) hx hb dL_succeeds_125 (by decide) ?_
          refine lv_goto (tgt := 130) hx hb dL_succeeds_126 (by decide) ?_
          exact hJ1 _ _ _ _ _ _ _ _ bo_1 _ _ hP hD hS _ (lv_sub hl [0, 1, 2, 3, 4] rfl) hg
  have L : ∀ (nf : Nat) (v10 : Int32) (v11 : Int32) (f12 : Nat → Int32) (f13 : Nat → Int32) (f14 : Nat → Int32) (f15 : Nat → Int32) (f16 : Nat → Int32) (f17 : Nat → Int32) (f18 : Nat → Int32), bo v10 → ∀ (H : Heap) (locs : List Loc), va_P D vwCl [(A_p0_history, .inr (1, [.ref A_p0_history_boards, .int V_p0_history_oldest, .int V_p0_history_saved])), (A_p0_board_owners, .inl (cI, 12, .inl V_p0_board_owners)), (A_p0, .inr (4, [.ref A_p0_opening, .ref A_p0_board, .ref A_p0_trialOpening, .ref A_p0_trial, .ref A_p0_history, .ref A_p0_snapshot, .int V_p0_hasSnapshot, .ref A_p0_text])), (A_p0_board, .inr (0, [.ref A_p0_board_numbers, .ref A_p0_board_owners, .ref A_p0_board_cells])), (A_p0_board_numbers, .inl (cI, 10, .inl V_p0_board_numbers)), (A_p0_opening, .inr (2, [.ref A_p0_board, .ref A_p0_opening_cut, .ref A_p0_opening_counts, .ref A_p0_opening_strength, .ref A_p0_opening_reason, .ref A_p0_opening_driver, .ref A_p0_opening_waits, .ref A_p0_opening_stands])), (A_p0_board_cells, .inl (cI, 63, .inl V_p0_board_cells)), (A_p0_opening_cut, .inl (cI, 9, .inl f13)), (A_p0_opening_counts, .inl (cI, 9, .inl f12)), (A_p0_opening_strength, .inl (cI, 9, .inl f17)), (A_p0_opening_reason, .inl (cI, 9, .inl f15)), (A_p0_opening_driver, .inl (cI, 9, .inl f14)), (A_p0_opening_waits, .inl (cI, 9, .inl f18)), (A_p0_opening_stands, .inl (cI, 9, .inl f16))] H → va_D A [(A_p0_history, .inr (1, [.ref A_p0_history_boards, .int V_p0_history_oldest, .int V_p0_history_saved])), (A_p0_board_owners, .inl (cI, 12, .inl V_p0_board_owners)), (A_p0, .inr (4, [.ref A_p0_opening, .ref A_p0_board, .ref A_p0_trialOpening, .ref A_p0_trial, .ref A_p0_history, .ref A_p0_snapshot, .int V_p0_hasSnapshot, .ref A_p0_text])), (A_p0_board, .inr (0, [.ref A_p0_board_numbers, .ref A_p0_board_owners, .ref A_p0_board_cells])), (A_p0_board_numbers, .inl (cI, 10, .inl V_p0_board_numbers)), (A_p0_opening, .inr (2, [.ref A_p0_board, .ref A_p0_opening_cut, .ref A_p0_opening_counts, .ref A_p0_opening_strength, .ref A_p0_opening_reason, .ref A_p0_opening_driver, .ref A_p0_opening_waits, .ref A_p0_opening_stands])), (A_p0_board_cells, .inl (cI, 63, .inl V_p0_board_cells)), (A_p0_opening_cut, .inl (cI, 9, .inl f13)), (A_p0_opening_counts, .inl (cI, 9, .inl f12)), (A_p0_opening_strength, .inl (cI, 9, .inl f17)), (A_p0_opening_reason, .inl (cI, 9, .inl f15)), (A_p0_opening_driver, .inl (cI, 9, .inl f14)), (A_p0_opening_waits, .inl (cI, 9, .inl f18)), (A_p0_opening_stands, .inl (cI, 9, .inl f16))] → va_S A s.heap H locs → ∀ ls : Array Slot, lv_has ls 7 [(5, .int v11), (4, .int v10), (3, .int v9), (0, .ref A_p0), (1, .int x2), (2, .int x3)] → g_L_succeeds_L1 V_p0_history_saved V_p0_board_numbers V_p0_board_cells x2 x3 v9 nf v10 v11 f12 f13 f14 f15 f16 f17 f18 = some (v43, f44, f45, f46, f47, f48, f49, f50) → W p l e rL_succeeds s m args below meth c H locs 0 0 Q (F0 m 13 ls []) := by
    intro nf
    induction nf with
    | zero =>
      intro v10 v11 f12 f13 f14 f15 f16 f17 f18 hz_v10 H locs hP hD hS ls hl hg
      exact no_some hg
    | succ nf ih =>
      intro v10 v11 f12 f13 f14 f15 f16 f17 f18 hz_v10 H locs hP hD hS ls hl hg
      rw [g_L_succeeds_L1] at hg
      refine lv_iload hx hb dL_succeeds_13 (lv_at hl 0 rfl) ?_
      refine lv_aload_n hx hb dL_succeeds_15 rfl (lv_at hl 3 rfl) ?_
      refine lv_iconst (v := 0) hx hb dL_succeeds_16 (by decide) ?_
      obtain ⟨k19, v20, hq, hg⟩ := b2_ex hg
      have hk := (nz0_ex hg).1
      replace hg := (nz0_ex hg).2
      subst hk
      refine callRVi (As := [.int 0]) (rest := [.int v11]) S hK hP (c_X4_count l D cI cZ cB cJ A_p0 A_p0_opening A_p0_board A_p0_trialOpening A_p0_trial A_p0_history A_p0_snapshot A_p0_text A_p0_history_boards A_p0_board_numbers A_p0_board_owners A_p0_board_cells V_p0_hasSnapshot V_p0_history_oldest V_p0_history_saved V_p0_board_numbers V_p0_board_cells 0 v20 hq) [2, 0, 3, 4, 6] rfl (cwV 1 hts gL_succeeds_X4_count rfl rfl rfl hd_X4_count ⟨Nat.le_of_ble_eq_true rfl, Nat.le_of_ble_eq_true rfl⟩) rfl rfl rfl hl.1 rfl (Nat.le_of_ble_eq_true rfl) dL_succeeds_17 ⟨Nat.zero_le _, Nat.zero_le _⟩ ?_
      refine lv_icmp_ge (tgt := 91) hx hb dL_succeeds_20 (by decide) (fun hc => ?_) (fun hc => ?_)
      · replace hg := if_yes hg hc
        cases hg
        exact kx hz_v10 _ _ hP hD hS _ (lv_sub hl [1, 2, 3, 4, 5] rfl)
      · replace hg := if_no hg hc
        refine lv_iload hx hb dL_succeeds_23 (lv_at hl 1 rfl) ?_
        refine lv_if_eq (tgt := 91) hx hb dL_succeeds_25 (by decide) (fun hc => ?_) (fun hc => ?_)
        · replace hg := if_yes hg hc
          cases hg
          exact kx hz_v10 _ _ hP hD hS _ (lv_sub hl [1, 2, 3, 4, 5] rfl)
        · replace hg := if_no hg hc
          refine lv_iload hx hb dL_succeeds_28 (lv_at hl 0 rfl) ?_
          refine lv_iload_n hx hb dL_succeeds_30 rfl (lv_at hl 4 rfl) ?_
          refine lv_icmp_eq (tgt := 78) hx hb dL_succeeds_31 (by decide) (fun hc => ?_) (fun hc => ?_)
          · replace hg := if_yes hg hc
            refine lv_iconst (v := 1) hx hb dL_succeeds_78 (by decide) ?_
            refine lv_goto (tgt := 83) hx hb dL_succeeds_79 (by decide) ?_
            refine lv_istore (lv' := [(4, .int 1), (5, .int v11), (3, .int v9), (0, .ref A_p0), (1, .int x2), (2, .int x3)]) hx hb dL_succeeds_83 hl (by decide) rfl (fun ls hl => ?_)
            refine lv_iinc (v := (v11 + 1)) (lv' := [(5, .int (v11 + 1)), (4, .int 1), (3, .int v9), (0, .ref A_p0), (1, .int x2), (2, .int x3)]) hx hb dL_succeeds_85 hl (k := 1) rfl rfl (by decide) rfl (fun ls hl => ?_)
            refine lv_goto (tgt := 13) hx hb dL_succeeds_88 (by decide) ?_
            exact ih _ _ _ _ _ _ _ _ _ bo_1 _ _ hP hD hS _ (lv_sub hl [0, 1, 2, 3, 4, 5] rfl) hg
          · replace hg := if_no hg hc
            refine lv_aload_n hx hb dL_succeeds_34 rfl (lv_at hl 3 rfl) ?_
            refine lv_iload hx hb dL_succeeds_35 (lv_at hl 0 rfl) ?_
            refine lv_iconst (v := 2) hx hb dL_succeeds_37 (by decide) ?_
            obtain ⟨k21, v22, hq, hg⟩ := b2_ex hg
            have hk := (nz0_ex hg).1
            replace hg := (nz0_ex hg).2
            subst hk
            refine callRVi (As := [.int v11, .int 2]) (rest := []) S hK hP (c_X4_armyOf l D cI cZ cB cJ A_p0 A_p0_opening A_p0_board A_p0_trialOpening A_p0_trial A_p0_history A_p0_snapshot A_p0_text A_p0_board_numbers A_p0_board_owners A_p0_board_cells V_p0_hasSnapshot V_p0_board_numbers V_p0_board_cells v11 2 v22 hq) [2, 3, 4, 6] rfl (cwV 2 hts gL_succeeds_X4_armyOf rfl rfl rfl hd_X4_armyOf ⟨Nat.le_of_ble_eq_true rfl, Nat.le_of_ble_eq_true rfl⟩) rfl rfl rfl hl.1 rfl (Nat.le_of_ble_eq_true rfl) dL_succeeds_38 ⟨Nat.zero_le _, Nat.zero_le _⟩ ?_
            refine lv_iconst (v := 1) hx hb dL_succeeds_41 (by decide) ?_
            refine lv_icmp_ne (tgt := 78) hx hb dL_succeeds_42 (by decide) (fun hc => ?_) (fun hc => ?_)
            · replace hg := if_no hg hc
              refine lv_iconst (v := 1) hx hb dL_succeeds_78 (by decide) ?_
              refine lv_goto (tgt := 83) hx hb dL_succeeds_79 (by decide) ?_
              refine lv_istore (lv' := [(4, .int 1), (5, .int v11), (3, .int v9), (0, .ref A_p0), (1, .int x2), (2, .int x3)]) hx hb dL_succeeds_83 hl (by decide) rfl (fun ls hl => ?_)
              refine lv_iinc (v := (v11 + 1)) (lv' := [(5, .int (v11 + 1)), (4, .int 1), (3, .int v9), (0, .ref A_p0), (1, .int x2), (2, .int x3)]) hx hb dL_succeeds_85 hl (k := 1) rfl rfl (by decide) rfl (fun ls hl => ?_)
              refine lv_goto (tgt := 13) hx hb dL_succeeds_88 (by decide) ?_
              exact ih _ _ _ _ _ _ _ _ _ bo_1 _ _ hP hD hS _ (lv_sub hl [0, 1, 2, 3, 4, 5] rfl) hg
            · replace hg := if_yes hg hc
              refine lv_aload_n hx hb dL_succeeds_45 rfl (lv_at hl 3 rfl) ?_
              refine lv_iload hx hb dL_succeeds_46 (lv_at hl 0 rfl) ?_
              refine lv_iconst (v := 3) hx hb dL_succeeds_48 (by decide) ?_
              obtain ⟨k23, v24, hq, hg⟩ := b2_ex hg
              have hk := (nz0_ex hg).1
              replace hg := (nz0_ex hg).2
              subst hk
              refine callRVi (As := [.int v11, .int 3]) (rest := []) S hK hP (c_X4_armyOf l D cI cZ cB cJ A_p0 A_p0_opening A_p0_board A_p0_trialOpening A_p0_trial A_p0_history A_p0_snapshot A_p0_text A_p0_board_numbers A_p0_board_owners A_p0_board_cells V_p0_hasSnapshot V_p0_board_numbers V_p0_board_cells v11 3 v24 hq) [2, 3, 4, 6] rfl (cwV 2 hts gL_succeeds_X4_armyOf rfl rfl rfl hd_X4_armyOf ⟨Nat.le_of_ble_eq_true rfl, Nat.le_of_ble_eq_true rfl⟩) rfl rfl rfl hl.1 rfl (Nat.le_of_ble_eq_true rfl) dL_succeeds_49 ⟨Nat.zero_le _, Nat.zero_le _⟩ ?_
              refine lv_iload_n hx hb dL_succeeds_52 rfl (lv_at hl 5 rfl) ?_
              refine lv_icmp_ne (tgt := 78) hx hb dL_succeeds_53 (by decide) (fun hc => ?_) (fun hc => ?_)
              · replace hg := if_no hg hc
                refine lv_iconst (v := 1) hx hb dL_succeeds_78 (by decide) ?_
                refine lv_goto (tgt := 83) hx hb dL_succeeds_79 (by decide) ?_
                refine lv_istore (lv' := [(4, .int 1), (5, .int v11), (3, .int v9), (0, .ref A_p0), (1, .int x2), (2, .int x3)]) hx hb dL_succeeds_83 hl (by decide) rfl (fun ls hl => ?_)
                refine lv_iinc (v := (v11 + 1)) (lv' := [(5, .int (v11 + 1)), (4, .int 1), (3, .int v9), (0, .ref A_p0), (1, .int x2), (2, .int x3)]) hx hb dL_succeeds_85 hl (k := 1) rfl rfl (by decide) rfl (fun ls hl => ?_)
                refine lv_goto (tgt := 13) hx hb dL_succeeds_88 (by decide) ?_
                exact ih _ _ _ _ _ _ _ _ _ bo_1 _ _ hP hD hS _ (lv_sub hl [0, 1, 2, 3, 4, 5] rfl) hg
              · replace hg := if_yes hg hc
                refine lv_aload_n hx hb dL_succeeds_56 rfl (lv_at hl 3 rfl) ?_
                refine lv_iload hx hb dL_succeeds_57 (lv_at hl 0 rfl) ?_
                refine lv_iconst (v := 1) hx hb dL_succeeds_59 (by decide) ?_
                obtain ⟨k25, v33, f26, f27, f28, f29, f30, f31, f32, hq, hg⟩ := b9_ex hg
                have hk := (nz0_ex hg).1
                replace hg := (nz0_ex hg).2
                subst hk
                refine callWV (As := [.int v11, .int 1]) (rest := []) (wr := [(A_p0_history, .inr (1, [.ref A_p0_history_boards, .int V_p0_history_oldest, .int V_p0_history_saved])), (A_p0_board_owners, .inl (cI, 12, .inl V_p0_board_owners))]) S hK hP hD hS hA (c_X4_ifOpened l D cI cZ cB cJ A_p0 A_p0_opening A_p0_board A_p0_trialOpening A_p0_trial A_p0_history A_p0_snapshot A_p0_text A_p0_board_numbers A_p0_board_owners A_p0_board_cells A_p0_opening_cut A_p0_opening_counts A_p0_opening_strength A_p0_opening_reason A_p0_opening_driver A_p0_opening_waits A_p0_opening_stands _ V_p0_hasSnapshot V_p0_board_numbers V_p0_board_cells f13 f12 f17 f15 f14 f18 f16 v11 1 v33 f26 f27 f28 f29 f30 f31 f32 hq) [2, 3, 4, 5, 6, 7, 8, 9, 10, 11, 12, 13] [0, 1] rfl rfl (by decide +kernel) (by decide +kernel) (by decide +kernel) (cwV 2 hts gL_succeeds_X4_ifOpened rfl rfl rfl hd_X4_ifOpened ⟨Nat.le_of_ble_eq_true rfl, Nat.le_of_ble_eq_true rfl⟩) rfl rfl rfl hl.1 rfl (Nat.le_of_ble_eq_true rfl) dL_succeeds_60 ⟨Nat.zero_le _, Nat.zero_le _⟩ (fun H locs hP hD hS => ?_)
                replace hP : va_P D vwCl [(A_p0_history, .inr (1, [.ref A_p0_history_boards, .int V_p0_history_oldest, .int V_p0_history_saved])), (A_p0_board_owners, .inl (cI, 12, .inl V_p0_board_owners)), (A_p0, .inr (4, [.ref A_p0_opening, .ref A_p0_board, .ref A_p0_trialOpening, .ref A_p0_trial, .ref A_p0_history, .ref A_p0_snapshot, .int V_p0_hasSnapshot, .ref A_p0_text])), (A_p0_board, .inr (0, [.ref A_p0_board_numbers, .ref A_p0_board_owners, .ref A_p0_board_cells])), (A_p0_board_numbers, .inl (cI, 10, .inl V_p0_board_numbers)), (A_p0_opening, .inr (2, [.ref A_p0_board, .ref A_p0_opening_cut, .ref A_p0_opening_counts, .ref A_p0_opening_strength, .ref A_p0_opening_reason, .ref A_p0_opening_driver, .ref A_p0_opening_waits, .ref A_p0_opening_stands])), (A_p0_board_cells, .inl (cI, 63, .inl V_p0_board_cells)), (A_p0_opening_cut, .inl (cI, 9, .inl f26)), (A_p0_opening_counts, .inl (cI, 9, .inl f27)), (A_p0_opening_strength, .inl (cI, 9, .inl f28)), (A_p0_opening_reason, .inl (cI, 9, .inl f29)), (A_p0_opening_driver, .inl (cI, 9, .inl f30)), (A_p0_opening_waits, .inl (cI, 9, .inl f31)), (A_p0_opening_stands, .inl (cI, 9, .inl f32))] H := hP
                replace hD : va_D A [(A_p0_history, .inr (1, [.ref A_p0_history_boards, .int V_p0_history_oldest, .int V_p0_history_saved])), (A_p0_board_owners, .inl (cI, 12, .inl V_p0_board_owners)), (A_p0, .inr (4, [.ref A_p0_opening, .ref A_p0_board, .ref A_p0_trialOpening, .ref A_p0_trial, .ref A_p0_history, .ref A_p0_snapshot, .int V_p0_hasSnapshot, .ref A_p0_text])), (A_p0_board, .inr (0, [.ref A_p0_board_numbers, .ref A_p0_board_owners, .ref A_p0_board_cells])), (A_p0_board_numbers, .inl (cI, 10, .inl V_p0_board_numbers)), (A_p0_opening, .inr (2, [.ref A_p0_board, .ref A_p0_opening_cut, .ref A_p0_opening_counts, .ref A_p0_opening_strength, .ref A_p0_opening_reason, .ref A_p0_opening_driver, .ref A_p0_opening_waits, .ref A_p0_opening_stands])), (A_p0_board_cells, .inl (cI, 63, .inl V_p0_board_cells)), (A_p0_opening_cut, .inl (cI, 9, .inl f26)), (A_p0_opening_counts, .inl (cI, 9, .inl f27)), (A_p0_opening_strength, .inl (cI, 9, .inl f28)), (A_p0_opening_reason, .inl (cI, 9, .inl f29)), (A_p0_opening_driver, .inl (cI, 9, .inl f30)), (A_p0_opening_waits, .inl (cI, 9, .inl f31)), (A_p0_opening_stands, .inl (cI, 9, .inl f32))] := hD
                refine lv_iload_n hx hb dL_succeeds_63 rfl (lv_at hl 2 rfl) ?_
                refine lv_icmp_ge (tgt := 82) hx hb dL_succeeds_64 (by decide) (fun hc => ?_) (fun hc => ?_)
                · replace hg := if_yes hg hc
                  refine lv_iconst (v := 0) hx hb dL_succeeds_82 (by decide) ?_
                  refine lv_istore (lv' := [(4, .int 0), (5, .int v11), (3, .int v9), (0, .ref A_p0), (1, .int x2), (2, .int x3)]) hx hb dL_succeeds_83 hl (by decide) rfl (fun ls hl => ?_)
                  refine lv_iinc (v := (v11 + 1)) (lv' := [(5, .int (v11 + 1)), (4, .int 0), (3, .int v9), (0, .ref A_p0), (1, .int x2), (2, .int x3)]) hx hb dL_succeeds_85 hl (k := 1) rfl rfl (by decide) rfl (fun ls hl => ?_)
                  refine lv_goto (tgt := 13) hx hb dL_succeeds_88 (by decide) ?_
                  exact ih _ _ _ _ _ _ _ _ _ bo_0 _ _ hP hD hS _ (lv_sub hl [0, 1, 2, 3, 4, 5] rfl) hg
                · replace hg := if_no hg hc
                  refine lv_aload_n hx hb dL_succeeds_67 rfl (lv_at hl 3 rfl) ?_
                  refine lv_iload hx hb dL_succeeds_68 (lv_at hl 0 rfl) ?_
                  refine lv_iconst (v := 2) hx hb dL_succeeds_70 (by decide) ?_
                  obtain ⟨k34, v42, f35, f36, f37, f38, f39, f40, f41, hq, hg⟩ := b9_ex hg
                  have hk := (nz0_ex hg).1
                  replace hg := (nz0_ex hg).2
                  subst hk
                  refine callWV (As := [.int v11, .int 2]) (rest := []) (wr := [(A_p0_history, .inr (1, [.ref A_p0_history_boards, .int V_p0_history_oldest, .int V_p0_history_saved])), (A_p0_board_owners, .inl (cI, 12, .inl V_p0_board_owners))]) S hK hP hD hS hA (c_X4_ifOpened l D cI cZ cB cJ A_p0 A_p0_opening A_p0_board A_p0_trialOpening A_p0_trial A_p0_history A_p0_snapshot A_p0_text A_p0_board_numbers A_p0_board_owners A_p0_board_cells A_p0_opening_cut A_p0_opening_counts A_p0_opening_strength A_p0_opening_reason A_p0_opening_driver A_p0_opening_waits A_p0_opening_stands _ V_p0_hasSnapshot V_p0_board_numbers V_p0_board_cells f26 f27 f28 f29 f30 f31 f32 v11 2 v42 f35 f36 f37 f38 f39 f40 f41 hq) [2, 3, 4, 5, 6, 7, 8, 9, 10, 11, 12, 13] [0, 1] rfl rfl (by decide +kernel) (by decide +kernel) (by decide +kernel) (cwV 2 hts gL_succeeds_X4_ifOpened rfl rfl rfl hd_X4_ifOpened ⟨Nat.le_of_ble_eq_true rfl, Nat.le_of_ble_eq_true rfl⟩) rfl rfl rfl hl.1 rfl (Nat.le_of_ble_eq_true rfl) dL_succeeds_71 ⟨Nat.zero_le _, Nat.zero_le _⟩ (fun H locs hP hD hS => ?_)
                  replace hP : va_P D vwCl [(A_p0_history, .inr (1, [.ref A_p0_history_boards, .int V_p0_history_oldest, .int V_p0_history_saved])), (A_p0_board_owners, .inl (cI, 12, .inl V_p0_board_owners)), (A_p0, .inr (4, [.ref A_p0_opening, .ref A_p0_board, .ref A_p0_trialOpening, .ref A_p0_trial, .ref A_p0_history, .ref A_p0_snapshot, .int V_p0_hasSnapshot, .ref A_p0_text])), (A_p0_board, .inr (0, [.ref A_p0_board_numbers, .ref A_p0_board_owners, .ref A_p0_board_cells])), (A_p0_board_numbers, .inl (cI, 10, .inl V_p0_board_numbers)), (A_p0_opening, .inr (2, [.ref A_p0_board, .ref A_p0_opening_cut, .ref A_p0_opening_counts, .ref A_p0_opening_strength, .ref A_p0_opening_reason, .ref A_p0_opening_driver, .ref A_p0_opening_waits, .ref A_p0_opening_stands])), (A_p0_board_cells, .inl (cI, 63, .inl V_p0_board_cells)), (A_p0_opening_cut, .inl (cI, 9, .inl f35)), (A_p0_opening_counts, .inl (cI, 9, .inl f36)), (A_p0_opening_strength, .inl (cI, 9, .inl f37)), (A_p0_opening_reason, .inl (cI, 9, .inl f38)), (A_p0_opening_driver, .inl (cI, 9, .inl f39)), (A_p0_opening_waits, .inl (cI, 9, .inl f40)), (A_p0_opening_stands, .inl (cI, 9, .inl f41))] H := hP
                  replace hD : va_D A [(A_p0_history, .inr (1, [.ref A_p0_history_boards, .int V_p0_history_oldest, .int V_p0_history_saved])), (A_p0_board_owners, .inl (cI, 12, .inl V_p0_board_owners)), (A_p0, .inr (4, [.ref A_p0_opening, .ref A_p0_board, .ref A_p0_trialOpening, .ref A_p0_trial, .ref A_p0_history, .ref A_p0_snapshot, .int V_p0_hasSnapshot, .ref A_p0_text])), (A_p0_board, .inr (0, [.ref A_p0_board_numbers, .ref A_p0_board_owners, .ref A_p0_board_cells])), (A_p0_board_numbers, .inl (cI, 10, .inl V_p0_board_numbers)), (A_p0_opening, .inr (2, [.ref A_p0_board, .ref A_p0_opening_cut, .ref A_p0_opening_counts, .ref A_p0_opening_strength, .ref A_p0_opening_reason, .ref A_p0_opening_driver, .ref A_p0_opening_waits, .ref A_p0_opening_stands])), (A_p0_board_cells, .inl (cI, 63, .inl V_p0_board_cells)), (A_p0_opening_cut, .inl (cI, 9, .inl f35)), (A_p0_opening_counts, .inl (cI, 9, .inl f36)), (A_p0_opening_strength, .inl (cI, 9, .inl f37)), (A_p0_opening_reason, .inl (cI, 9, .inl f38)), (A_p0_opening_driver, .inl (cI, 9, .inl f39)), (A_p0_opening_waits, .inl (cI, 9, .inl f40)), (A_p0_opening_stands, .inl (cI, 9, .inl f41))] := hD
                  refine lv_iconst (v := 1) hx hb dL_succeeds_74 (by decide) ?_
                  refine lv_icmp_ne (tgt := 82) hx hb dL_succeeds_75 (by decide) (fun hc => ?_) (fun hc => ?_)
                  · replace hg := if_no hg hc
                    refine lv_iconst (v := 0) hx hb dL_succeeds_82 (by decide) ?_
                    refine lv_istore (lv' := [(4, .int 0), (5, .int v11), (3, .int v9), (0, .ref A_p0), (1, .int x2), (2, .int x3)]) hx hb dL_succeeds_83 hl (by decide) rfl (fun ls hl => ?_)
                    refine lv_iinc (v := (v11 + 1)) (lv' := [(5, .int (v11 + 1)), (4, .int 0), (3, .int v9), (0, .ref A_p0), (1, .int x2), (2, .int x3)]) hx hb dL_succeeds_85 hl (k := 1) rfl rfl (by decide) rfl (fun ls hl => ?_)
                    refine lv_goto (tgt := 13) hx hb dL_succeeds_88 (by decide) ?_
                    exact ih _ _ _ _ _ _ _ _ _ bo_0 _ _ hP hD hS _ (lv_sub hl [0, 1, 2, 3, 4, 5] rfl) hg
                  · replace hg := if_yes hg hc
                    refine lv_iconst (v := 1) hx hb dL_succeeds_78 (by decide) ?_
                    refine lv_goto (tgt := 83) hx hb dL_succeeds_79 (by decide) ?_
                    refine lv_istore (lv' := [(4, .int 1), (5, .int v11), (3, .int v9), (0, .ref A_p0), (1, .int x2), (2, .int x3)]) hx hb dL_succeeds_83 hl (by decide) rfl (fun ls hl => ?_)
                    refine lv_iinc (v := (v11 + 1)) (lv' := [(5, .int (v11 + 1)), (4, .int 1), (3, .int v9), (0, .ref A_p0), (1, .int x2), (2, .int x3)]) hx hb dL_succeeds_85 hl (k := 1) rfl rfl (by decide) rfl (fun ls hl => ?_)
                    refine lv_goto (tgt := 13) hx hb dL_succeeds_88 (by decide) ?_
                    exact ih _ _ _ _ _ _ _ _ _ bo_1 _ _ hP hD hS _ (lv_sub hl [0, 1, 2, 3, 4, 5] rfl) hg
  exact L FU _ _ _ _ _ _ _ _ _ bo_1 _ _ hP hD hS _ (lv_sub hl [0, 1, 2, 3, 4, 5] rfl) hL
