theorem hd_X5_drop : yX5_drop.cls = RX5 ∧ yX5_drop.cls ≠ "java/lang/invoke/MethodHandle" ∧ yX5_drop.cls ≠ "java/lang/invoke/VarHandle" ∧ (parseMethodDescriptor yX5_drop.desc).map (fun d => d.parameters.length) = some 1 := by decide +kernel
theorem in_X5_drop_X5 : ∀ w ∈ u_ws RX5 TX5 20, w ∈ wsX5_drop := fun _ h => List.mem_cons_of_mem _ (List.mem_append_right _ h)
theorem wd_X5_drop_1 : Cond.fieldLink RX5 7 "FogOrdersModel" "s" "[I" ∈ wsX5_drop := List.mem_of_getElem? (i := 1) rfl
abbrev rX5_drop : Room := { frames := 2, cells := 0, slots := 0, locals := 43 }
set_option maxHeartbeats 4000000 in
set_option maxRecDepth 100000 in
theorem c_X5_drop (l : Launch) (D : va_G) (cI cZ cB cJ : ClassId) (A_t : Nat) (A_t_s : Nat) (A_t_aside : Nat) (A_t_snapshot : Nat) (A_t_saved : Nat) (A_t_text : Nat) (A_t_counts : Nat) (A_t_isCut : Nat) (A_t_strength : Nat) (A_t_fails : Nat) (A_t_why : Nat) (A_t_driver : Nat) (A_t_place : Nat) (A_t_isDone : Nat) (sz : Nat) (V_t_thrown : Int32) (V_t_isKept : Int32) (V_t_savedMany : Int32) (V_t_length : Int32) (V_t_position : Int32) (V_t_isWrong : Int32) (V_t_digested : Int64) (V_t_s : Nat → Int32) (V_t_saved : Nat → Int32) (x1 : Int32) (r0 : Int32) (w1 : Int32) (w2 : Int32) (w3 : Nat → Int32) (w4 : Nat → Int32) (hg : g_X5_drop V_t_thrown V_t_savedMany V_t_s V_t_saved x1 = some (r0, w1, w2, w3, w4)) : Met l yX5_drop wsX5_drop rX5_drop (PcW D cI cZ cB cJ sz [(A_t, .inr (5, [.int V_t_thrown, .ref A_t_s, .ref A_t_aside, .ref A_t_snapshot, .int V_t_isKept, .ref A_t_saved, .int V_t_savedMany, .ref A_t_text, .int V_t_length, .ref A_t_counts, .ref A_t_isCut, .ref A_t_strength, .ref A_t_fails, .ref A_t_why, .ref A_t_driver, .ref A_t_place, .ref A_t_isDone, .int V_t_position, .int V_t_isWrong, .long V_t_digested])), (A_t_s, .inl (cI, 77, .inl V_t_s)), (A_t_saved, .inl (cI, 462, .inl V_t_saved))] [.ref A_t, .int x1]) (QWi D cI cZ cB cJ sz [(A_t, .inr (5, [.int V_t_thrown, .ref A_t_s, .ref A_t_aside, .ref A_t_snapshot, .int V_t_isKept, .ref A_t_saved, .int V_t_savedMany, .ref A_t_text, .int V_t_length, .ref A_t_counts, .ref A_t_isCut, .ref A_t_strength, .ref A_t_fails, .ref A_t_why, .ref A_t_driver, .ref A_t_place, .ref A_t_isDone, .int V_t_position, .int V_t_isWrong, .long V_t_digested])), (A_t_s, .inl (cI, 77, .inl V_t_s)), (A_t_saved, .inl (cI, 462, .inl V_t_saved))] [(A_t, .inr (5, [.int w1, .ref A_t_s, .ref A_t_aside, .ref A_t_snapshot, .int V_t_isKept, .ref A_t_saved, .int w2, .ref A_t_text, .int V_t_length, .ref A_t_counts, .ref A_t_isCut, .ref A_t_strength, .ref A_t_fails, .ref A_t_why, .ref A_t_driver, .ref A_t_place, .ref A_t_isDone, .int V_t_position, .int V_t_isWrong, .long V_t_digested])), (A_t_s, .inl (cI, 77, .inl w3)), (A_t_saved, .inl (cI, 462, .inl w4))] r0) 0 0 (va_A [(A_t, .inr (5, [.int V_t_thrown, .ref A_t_s, .ref A_t_aside, .ref A_t_snapshot, .int V_t_isKept, .ref A_t_saved, .int V_t_savedMany, .ref A_t_text, .int V_t_length, .ref A_t_counts, .ref A_t_isCut, .ref A_t_strength, .ref A_t_fails, .ref A_t_why, .ref A_t_driver, .ref A_t_place, .ref A_t_isDone, .int V_t_position, .int V_t_isWrong, .long V_t_digested])), (A_t_s, .inl (cI, 77, .inl V_t_s)), (A_t_saved, .inl (cI, 462, .inl V_t_saved))] sz) := by
  refine bodyWi (cc := cX5_drop) (maxL := 2) (lv := [(0, .ref A_t), (1, .int x1)]) (by decide) rfl (Nat.le_of_ble_eq_true rfl) rfl ?_
  intro p e s m args below meth c Q hx hb hml hown hts A hP hK hD hA hS fin ls hl
  replace hown : s.vm.findClass RX5 = some m.cls := hown
  have S : CallFix p m c cX5_drop 2 s args wsX5_drop RX5 := ⟨hx, hb, hml, hown, hts⟩
  unfold g_X5_drop at hg
  refine lv_aload_n hx hb dX5_drop_0 rfl (lv_at hl 0 rfl) ?_
  refine lv_aload_n hx hb dX5_drop_1 rfl (lv_at hl 0 rfl) ?_
  refine lv_iload_n hx hb dX5_drop_2 rfl (lv_at hl 1 rfl) ?_
  obtain ⟨v1, hq, hg⟩ := bind_ex hg
  refine callRVz (As := [.int x1]) (rest := [.ref A_t]) S hK hP (c_X5_isArmy l D cI cZ cB cJ A_t A_t_s A_t_aside A_t_snapshot A_t_saved A_t_text A_t_counts A_t_isCut A_t_strength A_t_fails A_t_why A_t_driver A_t_place A_t_isDone V_t_thrown V_t_isKept V_t_savedMany V_t_length V_t_position V_t_isWrong V_t_digested V_t_s x1 v1 hq) [0, 1] rfl (cwV 1 hts gX5_drop_X5_isArmy rfl rfl rfl hd_X5_isArmy ⟨Nat.le_of_ble_eq_true rfl, Nat.le_of_ble_eq_true rfl⟩) rfl rfl rfl hl.1 rfl (Nat.le_of_ble_eq_true rfl) dX5_drop_3 ⟨Nat.zero_le _, Nat.zero_le _⟩ (fun hz_v1 => ?_)
  have hJ1 : ∀ (v2 : Int32), bo v2 → ∀ (H : Heap) (locs : List Loc), va_P D vwCl [(A_t, .inr (5, [.int V_t_thrown, .ref A_t_s, .ref A_t_aside, .ref A_t_snapshot, .int V_t_isKept, .ref A_t_saved, .int V_t_savedMany, .ref A_t_text, .int V_t_length, .ref A_t_counts, .ref A_t_isCut, .ref A_t_strength, .ref A_t_fails, .ref A_t_why, .ref A_t_driver, .ref A_t_place, .ref A_t_isDone, .int V_t_position, .int V_t_isWrong, .long V_t_digested])), (A_t_s, .inl (cI, 77, .inl V_t_s)), (A_t_saved, .inl (cI, 462, .inl V_t_saved))] H → va_D A [(A_t, .inr (5, [.int V_t_thrown, .ref A_t_s, .ref A_t_aside, .ref A_t_snapshot, .int V_t_isKept, .ref A_t_saved, .int V_t_savedMany, .ref A_t_text, .int V_t_length, .ref A_t_counts, .ref A_t_isCut, .ref A_t_strength, .ref A_t_fails, .ref A_t_why, .ref A_t_driver, .ref A_t_place, .ref A_t_isDone, .int V_t_position, .int V_t_isWrong, .long V_t_digested])), (A_t_s, .inl (cI, 77, .inl V_t_s)), (A_t_saved, .inl (cI, 462, .inl V_t_saved))] → va_S A s.heap H locs → ∀ ls : Array Slot, lv_has ls 2 [(0, .ref A_t), (1, .int x1)] → g_X5_drop_J1 V_t_thrown V_t_savedMany V_t_s V_t_saved x1 v2 = some (r0, w1, w2, w3, w4) → W p l e rX5_drop s m args below meth c H locs 0 0 Q (F0 m 14 ls [.int v2, .ref A_t]) := by
    intro v2 hz_v2 H locs hP hD hS ls hl hg
    unfold g_X5_drop_J1 at hg
    obtain ⟨v4, v3, hq, hg⟩ := b2_ex hg
    refine callWVz (As := [.int v2]) (rest := []) (wr := [(A_t_s, .inl (cI, 77, .inl V_t_s)), (A_t_saved, .inl (cI, 462, .inl V_t_saved))]) S hK hP hD hS hA (c_X5_holds l D cI cZ cB cJ A_t A_t_s A_t_aside A_t_snapshot A_t_saved A_t_text A_t_counts A_t_isCut A_t_strength A_t_fails A_t_why A_t_driver A_t_place A_t_isDone _ V_t_thrown V_t_isKept V_t_savedMany V_t_length V_t_position V_t_isWrong V_t_digested v2 v4 v3 hq) [0] [1, 2] rfl rfl (by decide +kernel) (by decide +kernel) (by decide +kernel) (cwV 1 hts gX5_drop_X5_holds rfl rfl rfl hd_X5_holds ⟨Nat.le_of_ble_eq_true rfl, Nat.le_of_ble_eq_true rfl⟩) rfl rfl rfl hl.1 rfl (Nat.le_of_ble_eq_true rfl) dX5_drop_14 ⟨Nat.zero_le _, Nat.zero_le _⟩ (fun hz_v4 H locs hP hD hS => ?_)
    replace hP : va_P D vwCl [(A_t_s, .inl (cI, 77, .inl V_t_s)), (A_t_saved, .inl (cI, 462, .inl V_t_saved)), (A_t, .inr (5, [.int v3, .ref A_t_s, .ref A_t_aside, .ref A_t_snapshot, .int V_t_isKept, .ref A_t_saved, .int V_t_savedMany, .ref A_t_text, .int V_t_length, .ref A_t_counts, .ref A_t_isCut, .ref A_t_strength, .ref A_t_fails, .ref A_t_why, .ref A_t_driver, .ref A_t_place, .ref A_t_isDone, .int V_t_position, .int V_t_isWrong, .long V_t_digested]))] H := hP
    replace hD : va_D A [(A_t_s, .inl (cI, 77, .inl V_t_s)), (A_t_saved, .inl (cI, 462, .inl V_t_saved)), (A_t, .inr (5, [.int v3, .ref A_t_s, .ref A_t_aside, .ref A_t_snapshot, .int V_t_isKept, .ref A_t_saved, .int V_t_savedMany, .ref A_t_text, .int V_t_length, .ref A_t_counts, .ref A_t_isCut, .ref A_t_strength, .ref A_t_fails, .ref A_t_why, .ref A_t_driver, .ref A_t_place, .ref A_t_isDone, .int V_t_position, .int V_t_isWrong, .long V_t_digested]))] := hD
    refine lv_if_ne (tgt := 22) hx hb dX5_drop_17 (by decide) (fun hc => ?_) (fun hc => ?_)
    · replace hg := if_no hg hc
      refine lv_aload_n hx hb dX5_drop_22 rfl (lv_at hl 0 rfl) ?_
      obtain ⟨v5, f6, hq, hg⟩ := b2_ex hg
      refine callWVv (As := []) (rest := []) (wr := []) S hK hP hD hS hA (c_X5_save l D cI cZ cB cJ A_t A_t_s A_t_aside A_t_snapshot A_t_saved A_t_text A_t_counts A_t_isCut A_t_strength A_t_fails A_t_why A_t_driver A_t_place A_t_isDone _ v3 V_t_isKept V_t_savedMany V_t_length V_t_position V_t_isWrong V_t_digested V_t_s V_t_saved v5 f6 hq) [2, 0, 1] [] rfl rfl (by decide +kernel) (by decide +kernel) (by decide +kernel) (cwV 0 hts gX5_drop_X5_save rfl rfl rfl hd_X5_save ⟨Nat.le_of_ble_eq_true rfl, Nat.le_of_ble_eq_true rfl⟩) rfl rfl rfl hl.1 rfl (Nat.le_of_ble_eq_true rfl) dX5_drop_23 ⟨Nat.zero_le _, Nat.zero_le _⟩ (fun H locs hP hD hS => ?_)
      replace hP : va_P D vwCl [(A_t, .inr (5, [.int v3, .ref A_t_s, .ref A_t_aside, .ref A_t_snapshot, .int V_t_isKept, .ref A_t_saved, .int v5, .ref A_t_text, .int V_t_length, .ref A_t_counts, .ref A_t_isCut, .ref A_t_strength, .ref A_t_fails, .ref A_t_why, .ref A_t_driver, .ref A_t_place, .ref A_t_isDone, .int V_t_position, .int V_t_isWrong, .long V_t_digested])), (A_t_s, .inl (cI, 77, .inl V_t_s)), (A_t_saved, .inl (cI, 462, .inl f6))] H := hP
      replace hD : va_D A [(A_t, .inr (5, [.int v3, .ref A_t_s, .ref A_t_aside, .ref A_t_snapshot, .int V_t_isKept, .ref A_t_saved, .int v5, .ref A_t_text, .int V_t_length, .ref A_t_counts, .ref A_t_isCut, .ref A_t_strength, .ref A_t_fails, .ref A_t_why, .ref A_t_driver, .ref A_t_place, .ref A_t_isDone, .int V_t_position, .int V_t_isWrong, .long V_t_digested])), (A_t_s, .inl (cI, 77, .inl V_t_s)), (A_t_saved, .inl (cI, 462, .inl f6))] := hD
      refine lv_aload_n hx hb dX5_drop_26 rfl (lv_at hl 0 rfl) ?_
      refine lv_iload_n hx hb dX5_drop_27 rfl (lv_at hl 1 rfl) ?_
      obtain ⟨f7, hq, hg⟩ := bind_ex hg
      refine callWVv (As := [.int x1]) (rest := []) (wr := [(A_t_saved, .inl (cI, 462, .inl f6))]) S hK hP hD hS hA (c_X5_goes l D cI cZ cB cJ A_t A_t_s A_t_aside A_t_snapshot A_t_saved A_t_text A_t_counts A_t_isCut A_t_strength A_t_fails A_t_why A_t_driver A_t_place A_t_isDone _ v3 V_t_isKept v5 V_t_length V_t_position V_t_isWrong V_t_digested V_t_s x1 f7 hq) [0, 1] [2] rfl rfl (by decide +kernel) (by decide +kernel) (by decide +kernel) (cwV 1 hts gX5_drop_X5_goes rfl rfl rfl hd_X5_goes ⟨Nat.le_of_ble_eq_true rfl, Nat.le_of_ble_eq_true rfl⟩) rfl rfl rfl hl.1 rfl (Nat.le_of_ble_eq_true rfl) dX5_drop_28 ⟨Nat.zero_le _, Nat.zero_le _⟩ (fun H locs hP hD hS => ?_)
      replace hP : va_P D vwCl [(A_t_saved, .inl (cI, 462, .inl f6)), (A_t, .inr (5, [.int v3, .ref A_t_s, .ref A_t_aside, .ref A_t_snapshot, .int V_t_isKept, .ref A_t_saved, .int v5, .ref A_t_text, .int V_t_length, .ref A_t_counts, .ref A_t_isCut, .ref A_t_strength, .ref A_t_fails, .ref A_t_why, .ref A_t_driver, .ref A_t_place, .ref A_t_isDone, .int V_t_position, .int V_t_isWrong, .long V_t_digested])), (A_t_s, .inl (cI, 77, .inl f7))] H := hP
      replace hD : va_D A [(A_t_saved, .inl (cI, 462, .inl f6)), (A_t, .inr (5, [.int v3, .ref A_t_s, .ref A_t_aside, .ref A_t_snapshot, .int V_t_isKept, .ref A_t_saved, .int v5, .ref A_t_text, .int V_t_length, .ref A_t_counts, .ref A_t_isCut, .ref A_t_strength, .ref A_t_fails, .ref A_t_why, .ref A_t_driver, .ref A_t_place, .ref A_t_isDone, .int V_t_position, .int V_t_isWrong, .long V_t_digested])), (A_t_s, .inl (cI, 77, .inl f7))] := hD
      refine lv_aload_n hx hb dX5_drop_31 rfl (lv_at hl 0 rfl) ?_
      refine xget (ci := 5) (C := RX5) (T := TX5) (N := 20) (v := .ref A_t_s) hx hb hts in_X5_drop_X5 hown hK hP 1 rfl rfl 1 (by decide) wd_X5_drop_1 rfl dX5_drop_32 ?_
      refine lv_bipush (v := 9) hx hb dX5_drop_35 (by decide) ?_
      obtain ⟨v8, hin, hv, hg⟩ := rdA_ex hg
      refine xiald hx hb hK hP 2 rfl hin hv dX5_drop_37 ?_
      cases hg
      exact fin _ _ _ _ dX5_drop_38 (hP.sub [1, 2, 0] rfl) (hD.sub [1, 2, 0] (by decide) rfl) hS
    · replace hg := if_yes hg hc
      refine lv_iconst (v := 0) hx hb dX5_drop_20 (by decide) ?_
      cases hg
      exact fin _ _ _ _ dX5_drop_21 (hP.sub [2, 0, 1] rfl) (hD.sub [2, 0, 1] (by decide) rfl) hS
  refine lv_if_eq (tgt := 13) hx hb dX5_drop_6 (by decide) (fun hc => ?_) (fun hc => ?_)
  · replace hg := if_yes hg hc
    refine lv_iconst (v := 1) hx hb dX5_drop_13 (by decide) ?_
    exact hJ1 _ bo_1 _ _ hP hD hS _ (lv_sub hl [0, 1] rfl) hg
  · replace hg := if_no hg hc
    refine lv_iconst (v := 0) hx hb dX5_drop_9 (by decide) ?_
    refine lv_goto (tgt := 14) hx hb dX5_drop_10 (by decide) ?_
    exact hJ1 _ bo_0 _ _ hP hD hS _ (lv_sub hl [0, 1] rfl) hg
theorem hd_X5_ordered : yX5_ordered.cls = RX5 ∧ yX5_ordered.cls ≠ "java/lang/invoke/MethodHandle" ∧ yX5_ordered.cls ≠ "java/lang/invoke/VarHandle" ∧ (parseMethodDescriptor yX5_ordered.desc).map (fun d => d.parameters.length) = some 4 := by decide +kernel
abbrev rX5_ordered : Room := { frames := 2, cells := 0, slots := 0, locals := 45 }
set_option maxHeartbeats 4000000 in
set_option maxRecDepth 100000 in
theorem c_X5_ordered (l : Launch) (D : va_G) (cI cZ cB cJ : ClassId) (A_t : Nat) (A_t_s : Nat) (A_t_aside : Nat) (A_t_snapshot : Nat) (A_t_saved : Nat) (A_t_text : Nat) (A_t_counts : Nat) (A_t_isCut : Nat) (A_t_strength : Nat) (A_t_fails : Nat) (A_t_why : Nat) (A_t_driver : Nat) (A_t_place : Nat) (A_t_isDone : Nat) (sz : Nat) (V_t_thrown : Int32) (V_t_isKept : Int32) (V_t_savedMany : Int32) (V_t_length : Int32) (V_t_position : Int32) (V_t_isWrong : Int32) (V_t_digested : Int64) (V_t_s : Nat → Int32) (V_t_saved : Nat → Int32) (x1 : Int32) (x2 : Int32) (x3 : Int32) (x4 : Int32) (r0 : Int32) (w1 : Int32) (w2 : Nat → Int32) (w3 : Nat → Int32) (hg : g_X5_ordered V_t_savedMany V_t_s V_t_saved x1 x2 x3 x4 = some (r0, w1, w2, w3)) : Met l yX5_ordered wsX5_ordered rX5_ordered (PcW D cI cZ cB cJ sz [(A_t, .inr (5, [.int V_t_thrown, .ref A_t_s, .ref A_t_aside, .ref A_t_snapshot, .int V_t_isKept, .ref A_t_saved, .int V_t_savedMany, .ref A_t_text, .int V_t_length, .ref A_t_counts, .ref A_t_isCut, .ref A_t_strength, .ref A_t_fails, .ref A_t_why, .ref A_t_driver, .ref A_t_place, .ref A_t_isDone, .int V_t_position, .int V_t_isWrong, .long V_t_digested])), (A_t_s, .inl (cI, 77, .inl V_t_s)), (A_t_saved, .inl (cI, 462, .inl V_t_saved))] [.ref A_t, .int x1, .int x2, .int x3, .int x4]) (QWi D cI cZ cB cJ sz [(A_t, .inr (5, [.int V_t_thrown, .ref A_t_s, .ref A_t_aside, .ref A_t_snapshot, .int V_t_isKept, .ref A_t_saved, .int V_t_savedMany, .ref A_t_text, .int V_t_length, .ref A_t_counts, .ref A_t_isCut, .ref A_t_strength, .ref A_t_fails, .ref A_t_why, .ref A_t_driver, .ref A_t_place, .ref A_t_isDone, .int V_t_position, .int V_t_isWrong, .long V_t_digested])), (A_t_s, .inl (cI, 77, .inl V_t_s)), (A_t_saved, .inl (cI, 462, .inl V_t_saved))] [(A_t, .inr (5, [.int V_t_thrown, .ref A_t_s, .ref A_t_aside, .ref A_t_snapshot, .int V_t_isKept, .ref A_t_saved, .int w1, .ref A_t_text, .int V_t_length, .ref A_t_counts, .ref A_t_isCut, .ref A_t_strength, .ref A_t_fails, .ref A_t_why, .ref A_t_driver, .ref A_t_place, .ref A_t_isDone, .int V_t_position, .int V_t_isWrong, .long V_t_digested])), (A_t_s, .inl (cI, 77, .inl w2)), (A_t_saved, .inl (cI, 462, .inl w3))] r0) 0 0 (va_A [(A_t, .inr (5, [.int V_t_thrown, .ref A_t_s, .ref A_t_aside, .ref A_t_snapshot, .int V_t_isKept, .ref A_t_saved, .int V_t_savedMany, .ref A_t_text, .int V_t_length, .ref A_t_counts, .ref A_t_isCut, .ref A_t_strength, .ref A_t_fails, .ref A_t_why, .ref A_t_driver, .ref A_t_place, .ref A_t_isDone, .int V_t_position, .int V_t_isWrong, .long V_t_digested])), (A_t_s, .inl (cI, 77, .inl V_t_s)), (A_t_saved, .inl (cI, 462, .inl V_t_saved))] sz) := by
  refine bodyWi (cc := cX5_ordered) (maxL := 6) (lv := [(0, .ref A_t), (1, .int x1), (2, .int x2), (3, .int x3), (4, .int x4)]) (by decide) rfl (Nat.le_of_ble_eq_true rfl) rfl ?_
  intro p e s m args below meth c Q hx hb hml hown hts A hP hK hD hA hS fin ls hl
  replace hown : s.vm.findClass RX5 = some m.cls := hown
  have S : CallFix p m c cX5_ordered 6 s args wsX5_ordered RX5 := ⟨hx, hb, hml, hown, hts⟩
  unfold g_X5_ordered at hg
  refine lv_aload_n hx hb dX5_ordered_0 rfl (lv_at hl 0 rfl) ?_
  obtain ⟨v1, f2, hq, hg⟩ := b2_ex hg
  refine callWVv (As := []) (rest := []) (wr := []) S hK hP hD hS hA (c_X5_save l D cI cZ cB cJ A_t A_t_s A_t_aside A_t_snapshot A_t_saved A_t_text A_t_counts A_t_isCut A_t_strength A_t_fails A_t_why A_t_driver A_t_place A_t_isDone _ V_t_thrown V_t_isKept V_t_savedMany V_t_length V_t_position V_t_isWrong V_t_digested V_t_s V_t_saved v1 f2 hq) [0, 1, 2] [] rfl rfl (by decide +kernel) (by decide +kernel) (by decide +kernel) (cwV 0 hts gX5_ordered_X5_save rfl rfl rfl hd_X5_save ⟨Nat.le_of_ble_eq_true rfl, Nat.le_of_ble_eq_true rfl⟩) rfl rfl rfl hl.1 rfl (Nat.le_of_ble_eq_true rfl) dX5_ordered_1 ⟨Nat.zero_le _, Nat.zero_le _⟩ (fun H locs hP hD hS => ?_)
  replace hP : va_P D vwCl [(A_t, .inr (5, [.int V_t_thrown, .ref A_t_s, .ref A_t_aside, .ref A_t_snapshot, .int V_t_isKept, .ref A_t_saved, .int v1, .ref A_t_text, .int V_t_length, .ref A_t_counts, .ref A_t_isCut, .ref A_t_strength, .ref A_t_fails, .ref A_t_why, .ref A_t_driver, .ref A_t_place, .ref A_t_isDone, .int V_t_position, .int V_t_isWrong, .long V_t_digested])), (A_t_s, .inl (cI, 77, .inl V_t_s)), (A_t_saved, .inl (cI, 462, .inl f2))] H := hP
  replace hD : va_D A [(A_t, .inr (5, [.int V_t_thrown, .ref A_t_s, .ref A_t_aside, .ref A_t_snapshot, .int V_t_isKept, .ref A_t_saved, .int v1, .ref A_t_text, .int V_t_length, .ref A_t_counts, .ref A_t_isCut, .ref A_t_strength, .ref A_t_fails, .ref A_t_why, .ref A_t_driver, .ref A_t_place, .ref A_t_isDone, .int V_t_position, .int V_t_isWrong, .long V_t_digested])), (A_t_s, .inl (cI, 77, .inl V_t_s)), (A_t_saved, .inl (cI, 462, .inl f2))] := hD
  refine lv_aload_n hx hb dX5_ordered_4 rfl (lv_at hl 0 rfl) ?_
  refine lv_iload_n hx hb dX5_ordered_5 rfl (lv_at hl 1 rfl) ?_
  refine lv_iconst (v := 2) hx hb dX5_ordered_6 (by decide) ?_
  obtain ⟨v3, hq, hg⟩ := bind_ex hg
  refine callRVi (As := [.int x1, .int 2]) (rest := []) S hK hP (c_X5_of l D cI cZ cB cJ A_t A_t_s A_t_aside A_t_snapshot A_t_saved A_t_text A_t_counts A_t_isCut A_t_strength A_t_fails A_t_why A_t_driver A_t_place A_t_isDone V_t_thrown V_t_isKept v1 V_t_length V_t_position V_t_isWrong V_t_digested V_t_s x1 2 v3 hq) [0, 1] rfl (cwV 2 hts gX5_ordered_X5_of rfl rfl rfl hd_X5_of ⟨Nat.le_of_ble_eq_true rfl, Nat.le_of_ble_eq_true rfl⟩) rfl rfl rfl hl.1 rfl (Nat.le_of_ble_eq_true rfl) dX5_ordered_7 ⟨Nat.zero_le _, Nat.zero_le _⟩ ?_
  refine lv_istore (lv' := [(5, .int v3), (0, .ref A_t), (1, .int x1), (2, .int x2), (3, .int x3), (4, .int x4)]) hx hb dX5_ordered_10 hl (by decide) rfl (fun ls hl => ?_)
  refine lv_aload_n hx hb dX5_ordered_12 rfl (lv_at hl 1 rfl) ?_
  refine lv_iload_n hx hb dX5_ordered_13 rfl (lv_at hl 2 rfl) ?_
  refine lv_iload_n hx hb dX5_ordered_14 rfl (lv_at hl 3 rfl) ?_
  refine lv_iload_n hx hb dX5_ordered_15 rfl (lv_at hl 4 rfl) ?_
  refine lv_iload hx hb dX5_ordered_16 (lv_at hl 5 rfl) ?_
  obtain ⟨f4, hq, hg⟩ := bind_ex hg
  refine callWVv (As := [.int x1, .int x2, .int x3, .int x4]) (rest := []) (wr := [(A_t_saved, .inl (cI, 462, .inl f2))]) S hK hP hD hS hA (c_X5_lays l D cI cZ cB cJ A_t A_t_s A_t_aside A_t_snapshot A_t_saved A_t_text A_t_counts A_t_isCut A_t_strength A_t_fails A_t_why A_t_driver A_t_place A_t_isDone _ V_t_thrown V_t_isKept v1 V_t_length V_t_position V_t_isWrong V_t_digested V_t_s x1 x2 x3 x4 f4 hq) [0, 1] [2] rfl rfl (by decide +kernel) (by decide +kernel) (by decide +kernel) (cwV 4 hts gX5_ordered_X5_lays rfl rfl rfl hd_X5_lays ⟨Nat.le_of_ble_eq_true rfl, Nat.le_of_ble_eq_true rfl⟩) rfl rfl rfl hl.1 rfl (Nat.le_of_ble_eq_true rfl) dX5_ordered_18 ⟨Nat.zero_le _, Nat.zero_le _⟩ (fun H locs hP hD hS => ?_)
  replace hP : va_P D vwCl [(A_t_saved, .inl (cI, 462, .inl f2)), (A_t, .inr (5, [.int V_t_thrown, .ref A_t_s, .ref A_t_aside, .ref A_t_snapshot, .int V_t_isKept, .ref A_t_saved, .int v1, .ref A_t_text, .int V_t_length, .ref A_t_counts, .ref A_t_isCut, .ref A_t_strength, .ref A_t_fails, .ref A_t_why, .ref A_t_driver, .ref A_t_place, .ref A_t_isDone, .int V_t_position, .int V_t_isWrong, .long V_t_digested])), (A_t_s, .inl (cI, 77, .inl f4))] H := hP
  replace hD : va_D A [(A_t_saved, .inl (cI, 462, .inl f2)), (A_t, .inr (5, [.int V_t_thrown, .ref A_t_s, .ref A_t_aside, .ref A_t_snapshot, .int V_t_isKept, .ref A_t_saved, .int v1, .ref A_t_text, .int V_t_length, .ref A_t_counts, .ref A_t_isCut, .ref A_t_strength, .ref A_t_fails, .ref A_t_why, .ref A_t_driver, .ref A_t_place, .ref A_t_isDone, .int V_t_position, .int V_t_isWrong, .long V_t_digested])), (A_t_s, .inl (cI, 77, .inl f4))] := hD
  refine lv_iload hx hb dX5_ordered_21 (lv_at hl 0 rfl) ?_
  cases hg
  exact fin _ _ _ _ dX5_ordered_23 (hP.sub [1, 2, 0] rfl) (hD.sub [1, 2, 0] (by decide) rfl) hS
theorem hd_X5_hold : yX5_hold.cls = RX5 ∧ yX5_hold.cls ≠ "java/lang/invoke/MethodHandle" ∧ yX5_hold.cls ≠ "java/lang/invoke/VarHandle" ∧ (parseMethodDescriptor yX5_hold.desc).map (fun d => d.parameters.length) = some 1 := by decide +kernel
abbrev rX5_hold : Room := { frames := 3, cells := 0, slots := 0, locals := 70 }
set_option maxHeartbeats 4000000 in
set_option maxRecDepth 100000 in
theorem c_X5_hold (l : Launch) (D : va_G) (cI cZ cB cJ : ClassId) (A_t : Nat) (A_t_s : Nat) (A_t_aside : Nat) (A_t_snapshot : Nat) (A_t_saved : Nat) (A_t_text : Nat) (A_t_counts : Nat) (A_t_isCut : Nat) (A_t_strength : Nat) (A_t_fails : Nat) (A_t_why : Nat) (A_t_driver : Nat) (A_t_place : Nat) (A_t_isDone : Nat) (sz : Nat) (V_t_thrown : Int32) (V_t_isKept : Int32) (V_t_savedMany : Int32) (V_t_length : Int32) (V_t_position : Int32) (V_t_isWrong : Int32) (V_t_digested : Int64) (V_t_s : Nat → Int32) (V_t_saved : Nat → Int32) (x1 : Int32) (r0 : Int32) (w1 : Int32) (w2 : Int32) (w3 : Nat → Int32) (w4 : Nat → Int32) (hg : g_X5_hold V_t_thrown V_t_savedMany V_t_s V_t_saved x1 = some (r0, w1, w2, w3, w4)) : Met l yX5_hold wsX5_hold rX5_hold (PcW D cI cZ cB cJ sz [(A_t, .inr (5, [.int V_t_thrown, .ref A_t_s, .ref A_t_aside, .ref A_t_snapshot, .int V_t_isKept, .ref A_t_saved, .int V_t_savedMany, .ref A_t_text, .int V_t_length, .ref A_t_counts, .ref A_t_isCut, .ref A_t_strength, .ref A_t_fails, .ref A_t_why, .ref A_t_driver, .ref A_t_place, .ref A_t_isDone, .int V_t_position, .int V_t_isWrong, .long V_t_digested])), (A_t_s, .inl (cI, 77, .inl V_t_s)), (A_t_saved, .inl (cI, 462, .inl V_t_saved))] [.ref A_t, .int x1]) (QWi D cI cZ cB cJ sz [(A_t, .inr (5, [.int V_t_thrown, .ref A_t_s, .ref A_t_aside, .ref A_t_snapshot, .int V_t_isKept, .ref A_t_saved, .int V_t_savedMany, .ref A_t_text, .int V_t_length, .ref A_t_counts, .ref A_t_isCut, .ref A_t_strength, .ref A_t_fails, .ref A_t_why, .ref A_t_driver, .ref A_t_place, .ref A_t_isDone, .int V_t_position, .int V_t_isWrong, .long V_t_digested])), (A_t_s, .inl (cI, 77, .inl V_t_s)), (A_t_saved, .inl (cI, 462, .inl V_t_saved))] [(A_t, .inr (5, [.int w1, .ref A_t_s, .ref A_t_aside, .ref A_t_snapshot, .int V_t_isKept, .ref A_t_saved, .int w2, .ref A_t_text, .int V_t_length, .ref A_t_counts, .ref A_t_isCut, .ref A_t_strength, .ref A_t_fails, .ref A_t_why, .ref A_t_driver, .ref A_t_place, .ref A_t_isDone, .int V_t_position, .int V_t_isWrong, .long V_t_digested])), (A_t_s, .inl (cI, 77, .inl w3)), (A_t_saved, .inl (cI, 462, .inl w4))] r0) 0 0 (va_A [(A_t, .inr (5, [.int V_t_thrown, .ref A_t_s, .ref A_t_aside, .ref A_t_snapshot, .int V_t_isKept, .ref A_t_saved, .int V_t_savedMany, .ref A_t_text, .int V_t_length, .ref A_t_counts, .ref A_t_isCut, .ref A_t_strength, .ref A_t_fails, .ref A_t_why, .ref A_t_driver, .ref A_t_place, .ref A_t_isDone, .int V_t_position, .int V_t_isWrong, .long V_t_digested])), (A_t_s, .inl (cI, 77, .inl V_t_s)), (A_t_saved, .inl (cI, 462, .inl V_t_saved))] sz) := by
  refine bodyWi (cc := cX5_hold) (maxL := 2) (lv := [(0, .ref A_t), (1, .int x1)]) (by decide) rfl (Nat.le_of_ble_eq_true rfl) rfl ?_
  intro p e s m args below meth c Q hx hb hml hown hts A hP hK hD hA hS fin ls hl
  replace hown : s.vm.findClass RX5 = some m.cls := hown
  have S : CallFix p m c cX5_hold 2 s args wsX5_hold RX5 := ⟨hx, hb, hml, hown, hts⟩
  unfold g_X5_hold at hg
  refine lv_aload_n hx hb dX5_hold_0 rfl (lv_at hl 0 rfl) ?_
  refine lv_aload_n hx hb dX5_hold_1 rfl (lv_at hl 0 rfl) ?_
  refine lv_iload_n hx hb dX5_hold_2 rfl (lv_at hl 1 rfl) ?_
  obtain ⟨v1, hq, hg⟩ := bind_ex hg
  refine callRVz (As := [.int x1]) (rest := [.ref A_t]) S hK hP (c_X5_isArmy l D cI cZ cB cJ A_t A_t_s A_t_aside A_t_snapshot A_t_saved A_t_text A_t_counts A_t_isCut A_t_strength A_t_fails A_t_why A_t_driver A_t_place A_t_isDone V_t_thrown V_t_isKept V_t_savedMany V_t_length V_t_position V_t_isWrong V_t_digested V_t_s x1 v1 hq) [0, 1] rfl (cwV 1 hts gX5_hold_X5_isArmy rfl rfl rfl hd_X5_isArmy ⟨Nat.le_of_ble_eq_true rfl, Nat.le_of_ble_eq_true rfl⟩) rfl rfl rfl hl.1 rfl (Nat.le_of_ble_eq_true rfl) dX5_hold_3 ⟨Nat.zero_le _, Nat.zero_le _⟩ (fun hz_v1 => ?_)
  have hJ1 : ∀ (v2 : Int32), bo v2 → ∀ (H : Heap) (locs : List Loc), va_P D vwCl [(A_t, .inr (5, [.int V_t_thrown, .ref A_t_s, .ref A_t_aside, .ref A_t_snapshot, .int V_t_isKept, .ref A_t_saved, .int V_t_savedMany, .ref A_t_text, .int V_t_length, .ref A_t_counts, .ref A_t_isCut, .ref A_t_strength, .ref A_t_fails, .ref A_t_why, .ref A_t_driver, .ref A_t_place, .ref A_t_isDone, .int V_t_position, .int V_t_isWrong, .long V_t_digested])), (A_t_s, .inl (cI, 77, .inl V_t_s)), (A_t_saved, .inl (cI, 462, .inl V_t_saved))] H → va_D A [(A_t, .inr (5, [.int V_t_thrown, .ref A_t_s, .ref A_t_aside, .ref A_t_snapshot, .int V_t_isKept, .ref A_t_saved, .int V_t_savedMany, .ref A_t_text, .int V_t_length, .ref A_t_counts, .ref A_t_isCut, .ref A_t_strength, .ref A_t_fails, .ref A_t_why, .ref A_t_driver, .ref A_t_place, .ref A_t_isDone, .int V_t_position, .int V_t_isWrong, .long V_t_digested])), (A_t_s, .inl (cI, 77, .inl V_t_s)), (A_t_saved, .inl (cI, 462, .inl V_t_saved))] → va_S A s.heap H locs → ∀ ls : Array Slot, lv_has ls 2 [(0, .ref A_t), (1, .int x1)] → g_X5_hold_J1 V_t_thrown V_t_savedMany V_t_s V_t_saved x1 v2 = some (r0, w1, w2, w3, w4) → W p l e rX5_hold s m args below meth c H locs 0 0 Q (F0 m 14 ls [.int v2, .ref A_t]) := by
    intro v2 hz_v2 H locs hP hD hS ls hl hg
    unfold g_X5_hold_J1 at hg
    obtain ⟨v4, v3, hq, hg⟩ := b2_ex hg
    refine callWVz (As := [.int v2]) (rest := []) (wr := [(A_t_s, .inl (cI, 77, .inl V_t_s)), (A_t_saved, .inl (cI, 462, .inl V_t_saved))]) S hK hP hD hS hA (c_X5_holds l D cI cZ cB cJ A_t A_t_s A_t_aside A_t_snapshot A_t_saved A_t_text A_t_counts A_t_isCut A_t_strength A_t_fails A_t_why A_t_driver A_t_place A_t_isDone _ V_t_thrown V_t_isKept V_t_savedMany V_t_length V_t_position V_t_isWrong V_t_digested v2 v4 v3 hq) [0] [1, 2] rfl rfl (by decide +kernel) (by decide +kernel) (by decide +kernel) (cwV 1 hts gX5_hold_X5_holds rfl rfl rfl hd_X5_holds ⟨Nat.le_of_ble_eq_true rfl, Nat.le_of_ble_eq_true rfl⟩) rfl rfl rfl hl.1 rfl (Nat.le_of_ble_eq_true rfl) dX5_hold_14 ⟨Nat.zero_le _, Nat.zero_le _⟩ (fun hz_v4 H locs hP hD hS => ?_)
    replace hP : va_P D vwCl [(A_t_s, .inl (cI, 77, .inl V_t_s)), (A_t_saved, .inl (cI, 462, .inl V_t_saved)), (A_t, .inr (5, [.int v3, .ref A_t_s, .ref A_t_aside, .ref A_t_snapshot, .int V_t_isKept, .ref A_t_saved, .int V_t_savedMany, .ref A_t_text, .int V_t_length, .ref A_t_counts, .ref A_t_isCut, .ref A_t_strength, .ref A_t_fails, .ref A_t_why, .ref A_t_driver, .ref A_t_place, .ref A_t_isDone, .int V_t_position, .int V_t_isWrong, .long V_t_digested]))] H := hP
    replace hD : va_D A [(A_t_s, .inl (cI, 77, .inl V_t_s)), (A_t_saved, .inl (cI, 462, .inl V_t_saved)), (A_t, .inr (5, [.int v3, .ref A_t_s, .ref A_t_aside, .ref A_t_snapshot, .int V_t_isKept, .ref A_t_saved, .int V_t_savedMany, .ref A_t_text, .int V_t_length, .ref A_t_counts, .ref A_t_isCut, .ref A_t_strength, .ref A_t_fails, .ref A_t_why, .ref A_t_driver, .ref A_t_place, .ref A_t_isDone, .int V_t_position, .int V_t_isWrong, .long V_t_digested]))] := hD
    refine lv_if_eq (tgt := 31) hx hb dX5_hold_17 (by decide) (fun hc => ?_) (fun hc => ?_)
    · replace hg := if_yes hg hc
      refine lv_iconst (v := 0) hx hb dX5_hold_31 (by decide) ?_
      cases hg
      exact fin _ _ _ _ dX5_hold_32 (hP.sub [2, 0, 1] rfl) (hD.sub [2, 0, 1] (by decide) rfl) hS
    · replace hg := if_no hg hc
      refine lv_aload_n hx hb dX5_hold_20 rfl (lv_at hl 0 rfl) ?_
      refine lv_iload_n hx hb dX5_hold_21 rfl (lv_at hl 1 rfl) ?_
      refine lv_iconst (v := 0) hx hb dX5_hold_22 (by decide) ?_
      refine lv_iconst (v := (-1)) hx hb dX5_hold_23 (by decide) ?_
      refine lv_iconst (v := (-1)) hx hb dX5_hold_24 (by decide) ?_
      obtain ⟨v8, v5, f6, f7, hq, hg⟩ := b4_ex hg
      refine callWV (As := [.int x1, .int 0, .int (-1), .int (-1)]) (rest := []) (wr := []) S hK hP hD hS hA (c_X5_ordered l D cI cZ cB cJ A_t A_t_s A_t_aside A_t_snapshot A_t_saved A_t_text A_t_counts A_t_isCut A_t_strength A_t_fails A_t_why A_t_driver A_t_place A_t_isDone _ v3 V_t_isKept V_t_savedMany V_t_length V_t_position V_t_isWrong V_t_digested V_t_s V_t_saved x1 0 (-1) (-1) v8 v5 f6 f7 hq) [2, 0, 1] [] rfl rfl (by decide +kernel) (by decide +kernel) (by decide +kernel) (cwV 4 hts gX5_hold_X5_ordered rfl rfl rfl hd_X5_ordered ⟨Nat.le_of_ble_eq_true rfl, Nat.le_of_ble_eq_true rfl⟩) rfl rfl rfl hl.1 rfl (Nat.le_of_ble_eq_true rfl) dX5_hold_25 ⟨Nat.zero_le _, Nat.zero_le _⟩ (fun H locs hP hD hS => ?_)
      replace hP : va_P D vwCl [(A_t, .inr (5, [.int v3, .ref A_t_s, .ref A_t_aside, .ref A_t_snapshot, .int V_t_isKept, .ref A_t_saved, .int v5, .ref A_t_text, .int V_t_length, .ref A_t_counts, .ref A_t_isCut, .ref A_t_strength, .ref A_t_fails, .ref A_t_why, .ref A_t_driver, .ref A_t_place, .ref A_t_isDone, .int V_t_position, .int V_t_isWrong, .long V_t_digested])), (A_t_s, .inl (cI, 77, .inl f6)), (A_t_saved, .inl (cI, 462, .inl f7))] H := hP
      replace hD : va_D A [(A_t, .inr (5, [.int v3, .ref A_t_s, .ref A_t_aside, .ref A_t_snapshot, .int V_t_isKept, .ref A_t_saved, .int v5, .ref A_t_text, .int V_t_length, .ref A_t_counts, .ref A_t_isCut, .ref A_t_strength, .ref A_t_fails, .ref A_t_why, .ref A_t_driver, .ref A_t_place, .ref A_t_isDone, .int V_t_position, .int V_t_isWrong, .long V_t_digested])), (A_t_s, .inl (cI, 77, .inl f6)), (A_t_saved, .inl (cI, 462, .inl f7))] := hD
      refine lv_goto (tgt := 32) hx hb dX5_hold_28 (by decide) ?_
      cases hg
      exact fin _ _ _ _ dX5_hold_32 hP hD hS
  refine lv_if_eq (tgt := 13) hx hb dX5_hold_6 (by decide) (fun hc => ?_) (fun hc => ?_)
  · replace hg := if_yes hg hc
    refine lv_iconst (v := 1) hx hb dX5_hold_13 (by decide) ?_
    exact hJ1 _ bo_1 _ _ hP hD hS _ (lv_sub hl [0, 1] rfl) hg
  · replace hg := if_no hg hc
    refine lv_iconst (v := 0) hx hb dX5_hold_9 (by decide) ?_
    refine lv_goto (tgt := 14) hx hb dX5_hold_10 (by decide) ?_
    exact hJ1 _ bo_0 _ _ hP hD hS _ (lv_sub hl [0, 1] rfl) hg
theorem hd_X5_move : yX5_move.cls = RX5 ∧ yX5_move.cls ≠ "java/lang/invoke/MethodHandle" ∧ yX5_move.cls ≠ "java/lang/invoke/VarHandle" ∧ (parseMethodDescriptor yX5_move.desc).map (fun d => d.parameters.length) = some 2 := by decide +kernel
abbrev rX5_move : Room := { frames := 3, cells := 0, slots := 0, locals := 70 }
set_option maxHeartbeats 4000000 in
set_option maxRecDepth 100000 in
theorem c_X5_move (l : Launch) (D : va_G) (cI cZ cB cJ : ClassId) (A_t : Nat) (A_t_s : Nat) (A_t_aside : Nat) (A_t_snapshot : Nat) (A_t_saved : Nat) (A_t_text : Nat) (A_t_counts : Nat) (A_t_isCut : Nat) (A_t_strength : Nat) (A_t_fails : Nat) (A_t_why : Nat) (A_t_driver : Nat) (A_t_place : Nat) (A_t_isDone : Nat) (sz : Nat) (V_t_thrown : Int32) (V_t_isKept : Int32) (V_t_savedMany : Int32) (V_t_length : Int32) (V_t_position : Int32) (V_t_isWrong : Int32) (V_t_digested : Int64) (V_t_s : Nat → Int32) (V_t_saved : Nat → Int32) (x1 : Int32) (x2 : Int32) (r0 : Int32) (w1 : Int32) (w2 : Int32) (w3 : Nat → Int32) (w4 : Nat → Int32) (hg : g_X5_move V_t_thrown V_t_savedMany V_t_s V_t_saved x1 x2 = some (r0, w1, w2, w3, w4)) : Met l yX5_move wsX5_move rX5_move (PcW D cI cZ cB cJ sz [(A_t, .inr (5, [.int V_t_thrown, .ref A_t_s, .ref A_t_aside, .ref A_t_snapshot, .int V_t_isKept, .ref A_t_saved, .int V_t_savedMany, .ref A_t_text, .int V_t_length, .ref A_t_counts, .ref A_t_isCut, .ref A_t_strength, .ref A_t_fails, .ref A_t_why, .ref A_t_driver, .ref A_t_place, .ref A_t_isDone, .int V_t_position, .int V_t_isWrong, .long V_t_digested])), (A_t_s, .inl (cI, 77, .inl V_t_s)), (A_t_saved, .inl (cI, 462, .inl V_t_saved))] [.ref A_t, .int x1, .int x2]) (QWi D cI cZ cB cJ sz [(A_t, .inr (5, [.int V_t_thrown, .ref A_t_s, .ref A_t_aside, .ref A_t_snapshot, .int V_t_isKept, .ref A_t_saved, .int V_t_savedMany, .ref A_t_text, .int V_t_length, .ref A_t_counts, .ref A_t_isCut, .ref A_t_strength, .ref A_t_fails, .ref A_t_why, .ref A_t_driver, .ref A_t_place, .ref A_t_isDone, .int V_t_position, .int V_t_isWrong, .long V_t_digested])), (A_t_s, .inl (cI, 77, .inl V_t_s)), (A_t_saved, .inl (cI, 462, .inl V_t_saved))] [(A_t, .inr (5, [.int w1, .ref A_t_s, .ref A_t_aside, .ref A_t_snapshot, .int V_t_isKept, .ref A_t_saved, .int w2, .ref A_t_text, .int V_t_length, .ref A_t_counts, .ref A_t_isCut, .ref A_t_strength, .ref A_t_fails, .ref A_t_why, .ref A_t_driver, .ref A_t_place, .ref A_t_isDone, .int V_t_position, .int V_t_isWrong, .long V_t_digested])), (A_t_s, .inl (cI, 77, .inl w3)), (A_t_saved, .inl (cI, 462, .inl w4))] r0) 0 0 (va_A [(A_t, .inr (5, [.int V_t_thrown, .ref A_t_s, .ref A_t_aside, .ref A_t_snapshot, .int V_t_isKept, .ref A_t_saved, .int V_t_savedMany, .ref A_t_text, .int V_t_length, .ref A_t_counts, .ref A_t_isCut, .ref A_t_strength, .ref A_t_fails, .ref A_t_why, .ref A_t_driver, .ref A_t_place, .ref A_t_isDone, .int V_t_position, .int V_t_isWrong, .long V_t_digested])), (A_t_s, .inl (cI, 77, .inl V_t_s)), (A_t_saved, .inl (cI, 462, .inl V_t_saved))] sz) := by
  refine bodyWi (cc := cX5_move) (maxL := 4) (lv := [(0, .ref A_t), (1, .int x1), (2, .int x2)]) (by decide) rfl (Nat.le_of_ble_eq_true rfl) rfl ?_
  intro p e s m args below meth c Q hx hb hml hown hts A hP hK hD hA hS fin ls hl
  replace hown : s.vm.findClass RX5 = some m.cls := hown
  have S : CallFix p m c cX5_move 4 s args wsX5_move RX5 := ⟨hx, hb, hml, hown, hts⟩
  unfold g_X5_move at hg
  refine lv_aload_n hx hb dX5_move_0 rfl (lv_at hl 0 rfl) ?_
  refine lv_iload_n hx hb dX5_move_1 rfl (lv_at hl 1 rfl) ?_
  obtain ⟨v1, hq, hg⟩ := bind_ex hg
  refine callRVz (As := [.int x1]) (rest := []) S hK hP (c_X5_isArmy l D cI cZ cB cJ A_t A_t_s A_t_aside A_t_snapshot A_t_saved A_t_text A_t_counts A_t_isCut A_t_strength A_t_fails A_t_why A_t_driver A_t_place A_t_isDone V_t_thrown V_t_isKept V_t_savedMany V_t_length V_t_position V_t_isWrong V_t_digested V_t_s x1 v1 hq) [0, 1] rfl (cwV 1 hts gX5_move_X5_isArmy rfl rfl rfl hd_X5_isArmy ⟨Nat.le_of_ble_eq_true rfl, Nat.le_of_ble_eq_true rfl⟩) rfl rfl rfl hl.1 rfl (Nat.le_of_ble_eq_true rfl) dX5_move_2 ⟨Nat.zero_le _, Nat.zero_le _⟩ (fun hz_v1 => ?_)
  have hJ1 : ∀ (v3 : Int32), bo v3 → ∀ (H : Heap) (locs : List Loc), va_P D vwCl [(A_t, .inr (5, [.int V_t_thrown, .ref A_t_s, .ref A_t_aside, .ref A_t_snapshot, .int V_t_isKept, .ref A_t_saved, .int V_t_savedMany, .ref A_t_text, .int V_t_length, .ref A_t_counts, .ref A_t_isCut, .ref A_t_strength, .ref A_t_fails, .ref A_t_why, .ref A_t_driver, .ref A_t_place, .ref A_t_isDone, .int V_t_position, .int V_t_isWrong, .long V_t_digested])), (A_t_s, .inl (cI, 77, .inl V_t_s)), (A_t_saved, .inl (cI, 462, .inl V_t_saved))] H → va_D A [(A_t, .inr (5, [.int V_t_thrown, .ref A_t_s, .ref A_t_aside, .ref A_t_snapshot, .int V_t_isKept, .ref A_t_saved, .int V_t_savedMany, .ref A_t_text, .int V_t_length, .ref A_t_counts, .ref A_t_isCut, .ref A_t_strength, .ref A_t_fails, .ref A_t_why, .ref A_t_driver, .ref A_t_place, .ref A_t_isDone, .int V_t_position, .int V_t_isWrong, .long V_t_digested])), (A_t_s, .inl (cI, 77, .inl V_t_s)), (A_t_saved, .inl (cI, 462, .inl V_t_saved))] → va_S A s.heap H locs → ∀ ls : Array Slot, lv_has ls 4 [(0, .ref A_t), (1, .int x1), (2, .int x2)] → g_X5_move_J1 V_t_thrown V_t_savedMany V_t_s V_t_saved x1 x2 v3 = some (r0, w1, w2, w3, w4) → W p l e rX5_move s m args below meth c H locs 0 0 Q (F0 m 20 ls [.int v3]) := by
    intro v3 hz_v3 H locs hP hD hS ls hl hg
    unfold g_X5_move_J1 at hg
    refine lv_istore_n (lv' := [(3, .int v3), (0, .ref A_t), (1, .int x1), (2, .int x2)]) hx hb dX5_move_20 rfl hl (by decide) rfl (fun ls hl => ?_)
    refine lv_aload_n hx hb dX5_move_21 rfl (lv_at hl 1 rfl) ?_
    refine lv_iload_n hx hb dX5_move_22 rfl (lv_at hl 0 rfl) ?_
    have hJ2 : ∀ (v6 : Int32), ∀ (H : Heap) (locs : List Loc), va_P D vwCl [(A_t, .inr (5, [.int V_t_thrown, .ref A_t_s, .ref A_t_aside, .ref A_t_snapshot, .int V_t_isKept, .ref A_t_saved, .int V_t_savedMany, .ref A_t_text, .int V_t_length, .ref A_t_counts, .ref A_t_isCut, .ref A_t_strength, .ref A_t_fails, .ref A_t_why, .ref A_t_driver, .ref A_t_place, .ref A_t_isDone, .int V_t_position, .int V_t_isWrong, .long V_t_digested])), (A_t_s, .inl (cI, 77, .inl V_t_s)), (A_t_saved, .inl (cI, 462, .inl V_t_saved))] H → va_D A [(A_t, .inr (5, [.int V_t_thrown, .ref A_t_s, .ref A_t_aside, .ref A_t_snapshot, .int V_t_isKept, .ref A_t_saved, .int V_t_savedMany, .ref A_t_text, .int V_t_length, .ref A_t_counts, .ref A_t_isCut, .ref A_t_strength, .ref A_t_fails, .ref A_t_why, .ref A_t_driver, .ref A_t_place, .ref A_t_isDone, .int V_t_position, .int V_t_isWrong, .long V_t_digested])), (A_t_s, .inl (cI, 77, .inl V_t_s)), (A_t_saved, .inl (cI, 462, .inl V_t_saved))] → va_S A s.heap H locs → ∀ ls : Array Slot, lv_has ls 4 [(0, .ref A_t), (1, .int x1), (2, .int x2)] → g_X5_move_J2 V_t_thrown V_t_savedMany V_t_s V_t_saved x1 x2 v6 = some (r0, w1, w2, w3, w4) → W p l e rX5_move s m args below meth c H locs 0 0 Q (F0 m 48 ls [.int v6, .ref A_t]) := by
      intro v6 H locs hP hD hS ls hl hg
      unfold g_X5_move_J2 at hg
      obtain ⟨v8, v7, hq, hg⟩ := b2_ex hg
      refine callWVz (As := [.int v6]) (rest := []) (wr := [(A_t_s, .inl (cI, 77, .inl V_t_s)), (A_t_saved, .inl (cI, 462, .inl V_t_saved))]) S hK hP hD hS hA (c_X5_holds l D cI cZ cB cJ A_t A_t_s A_t_aside A_t_snapshot A_t_saved A_t_text A_t_counts A_t_isCut A_t_strength A_t_fails A_t_why A_t_driver A_t_place A_t_isDone _ V_t_thrown V_t_isKept V_t_savedMany V_t_length V_t_position V_t_isWrong V_t_digested v6 v8 v7 hq) [0] [1, 2] rfl rfl (by decide +kernel) (by decide +kernel) (by decide +kernel) (cwV 1 hts gX5_move_X5_holds rfl rfl rfl hd_X5_holds ⟨Nat.le_of_ble_eq_true rfl, Nat.le_of_ble_eq_true rfl⟩) rfl rfl rfl hl.1 rfl (Nat.le_of_ble_eq_true rfl) dX5_move_48 ⟨Nat.zero_le _, Nat.zero_le _⟩ (fun hz_v8 H locs hP hD hS => ?_)
      replace hP : va_P D vwCl [(A_t_s, .inl (cI, 77, .inl V_t_s)), (A_t_saved, .inl (cI, 462, .inl V_t_saved)), (A_t, .inr (5, [.int v7, .ref A_t_s, .ref A_t_aside, .ref A_t_snapshot, .int V_t_isKept, .ref A_t_saved, .int V_t_savedMany, .ref A_t_text, .int V_t_length, .ref A_t_counts, .ref A_t_isCut, .ref A_t_strength, .ref A_t_fails, .ref A_t_why, .ref A_t_driver, .ref A_t_place, .ref A_t_isDone, .int V_t_position, .int V_t_isWrong, .long V_t_digested]))] H := hP
      replace hD : va_D A [(A_t_s, .inl (cI, 77, .inl V_t_s)), (A_t_saved, .inl (cI, 462, .inl V_t_saved)), (A_t, .inr (5, [.int v7, .ref A_t_s, .ref A_t_aside, .ref A_t_snapshot, .int V_t_isKept, .ref A_t_saved, .int V_t_savedMany, .ref A_t_text, .int V_t_length, .ref A_t_counts, .ref A_t_isCut, .ref A_t_strength, .ref A_t_fails, .ref A_t_why, .ref A_t_driver, .ref A_t_place, .ref A_t_isDone, .int V_t_position, .int V_t_isWrong, .long V_t_digested]))] := hD
      refine lv_if_eq (tgt := 65) hx hb dX5_move_51 (by decide) (fun hc => ?_) (fun hc => ?_)
      · replace hg := if_yes hg hc
        refine lv_iconst (v := 0) hx hb dX5_move_65 (by decide) ?_
        cases hg
        exact fin _ _ _ _ dX5_move_66 (hP.sub [2, 0, 1] rfl) (hD.sub [2, 0, 1] (by decide) rfl) hS
      · replace hg := if_no hg hc
        refine lv_aload_n hx hb dX5_move_54 rfl (lv_at hl 0 rfl) ?_
        refine lv_iload_n hx hb dX5_move_55 rfl (lv_at hl 1 rfl) ?_
        refine lv_iconst (v := 1) hx hb dX5_move_56 (by decide) ?_
        refine lv_iload_n hx hb dX5_move_57 rfl (lv_at hl 2 rfl) ?_
        refine lv_iconst (v := (-1)) hx hb dX5_move_58 (by decide) ?_
        obtain ⟨v12, v9, f10, f11, hq, hg⟩ := b4_ex hg
        refine callWV (As := [.int x1, .int 1, .int x2, .int (-1)]) (rest := []) (wr := []) S hK hP hD hS hA (c_X5_ordered l D cI cZ cB cJ A_t A_t_s A_t_aside A_t_snapshot A_t_saved A_t_text A_t_counts A_t_isCut A_t_strength A_t_fails A_t_why A_t_driver A_t_place A_t_isDone _ v7 V_t_isKept V_t_savedMany V_t_length V_t_position V_t_isWrong V_t_digested V_t_s V_t_saved x1 1 x2 (-1) v12 v9 f10 f11 hq) [2, 0, 1] [] rfl rfl (by decide +kernel) (by decide +kernel) (by decide +kernel) (cwV 4 hts gX5_move_X5_ordered rfl rfl rfl hd_X5_ordered ⟨Nat.le_of_ble_eq_true rfl, Nat.le_of_ble_eq_true rfl⟩) rfl rfl rfl hl.1 rfl (Nat.le_of_ble_eq_true rfl) dX5_move_59 ⟨Nat.zero_le _, Nat.zero_le _⟩ (fun H locs hP hD hS => ?_)
        replace hP : va_P D vwCl [(A_t, .inr (5, [.int v7, .ref A_t_s, .ref A_t_aside, .ref A_t_snapshot, .int V_t_isKept, .ref A_t_saved, .int v9, .ref A_t_text, .int V_t_length, .ref A_t_counts, .ref A_t_isCut, .ref A_t_strength, .ref A_t_fails, .ref A_t_why, .ref A_t_driver, .ref A_t_place, .ref A_t_isDone, .int V_t_position, .int V_t_isWrong, .long V_t_digested])), (A_t_s, .inl (cI, 77, .inl f10)), (A_t_saved, .inl (cI, 462, .inl f11))] H := hP
        replace hD : va_D A [(A_t, .inr (5, [.int v7, .ref A_t_s, .ref A_t_aside, .ref A_t_snapshot, .int V_t_isKept, .ref A_t_saved, .int v9, .ref A_t_text, .int V_t_length, .ref A_t_counts, .ref A_t_isCut, .ref A_t_strength, .ref A_t_fails, .ref A_t_why, .ref A_t_driver, .ref A_t_place, .ref A_t_isDone, .int V_t_position, .int V_t_isWrong, .long V_t_digested])), (A_t_s, .inl (cI, 77, .inl f10)), (A_t_saved, .inl (cI, 462, .inl f11))] := hD
        refine lv_goto (tgt := 66) hx hb dX5_move_62 (by decide) ?_
        cases hg
        exact fin _ _ _ _ dX5_move_66 hP hD hS
    refine lv_if_ne (tgt := 30) hx hb dX5_move_23 (by decide) (fun hc => ?_) (fun hc => ?_)
    · replace hg := if_no hg hc
      refine lv_aload_n hx hb dX5_move_30 rfl (lv_at hl 1 rfl) ?_
      refine lv_iload_n hx hb dX5_move_31 rfl (lv_at hl 2 rfl) ?_
      refine lv_iconst (v := 1) hx hb dX5_move_32 (by decide) ?_
      obtain ⟨v4, hq, hg⟩ := bind_ex hg
      refine callRVi (As := [.int x1, .int 1]) (rest := [.ref A_t]) S hK hP (c_X5_of l D cI cZ cB cJ A_t A_t_s A_t_aside A_t_snapshot A_t_saved A_t_text A_t_counts A_t_isCut A_t_strength A_t_fails A_t_why A_t_driver A_t_place A_t_isDone V_t_thrown V_t_isKept V_t_savedMany V_t_length V_t_position V_t_isWrong V_t_digested V_t_s x1 1 v4 hq) [0, 1] rfl (cwV 2 hts gX5_move_X5_of rfl rfl rfl hd_X5_of ⟨Nat.le_of_ble_eq_true rfl, Nat.le_of_ble_eq_true rfl⟩) rfl rfl rfl hl.1 rfl (Nat.le_of_ble_eq_true rfl) dX5_move_33 ⟨Nat.zero_le _, Nat.zero_le _⟩ ?_
      refine lv_iload_n hx hb dX5_move_36 rfl (lv_at hl 3 rfl) ?_
      obtain ⟨v5, hq, hg⟩ := bind_ex hg
      refine callRSz (As := [.int v4, .int x2]) (rest := [.ref A_t]) S hK hP (c_X5_areNeighbours l D cI cZ cB cJ v4 x2 v5 hq) [] rfl (va_cwS 2 hts gX5_move_X5_areNeighbours rfl rfl rfl hd_X5_areNeighbours ⟨Nat.le_of_ble_eq_true rfl, Nat.le_of_ble_eq_true rfl⟩) rfl hl.1 rfl (Nat.le_of_ble_eq_true rfl) dX5_move_37 ⟨Nat.zero_le _, Nat.zero_le _⟩ (fun hz_v5 => ?_)
      refine lv_if_ne (tgt := 47) hx hb dX5_move_40 (by decide) (fun hc => ?_) (fun hc => ?_)
      · replace hg := if_no hg hc
        refine lv_iconst (v := 0) hx hb dX5_move_47 (by decide) ?_
        exact hJ2 _ _ _ hP hD hS _ (lv_sub hl [1, 2, 3] rfl) hg
      · replace hg := if_yes hg hc
        refine lv_iconst (v := 2) hx hb dX5_move_43 (by decide) ?_
        refine lv_goto (tgt := 48) hx hb dX5_move_44 (by decide) ?_
        exact hJ2 _ _ _ hP hD hS _ (lv_sub hl [1, 2, 3] rfl) hg
    · replace hg := if_yes hg hc
      refine lv_iconst (v := 1) hx hb dX5_move_26 (by decide) ?_
      refine lv_goto (tgt := 48) hx hb dX5_move_27 (by decide) ?_
      exact hJ2 _ _ _ hP hD hS _ (lv_sub hl [1, 2, 3] rfl) hg
  refine lv_if_eq (tgt := 19) hx hb dX5_move_5 (by decide) (fun hc => ?_) (fun hc => ?_)
  · replace hg := if_yes hg hc
    refine lv_iconst (v := 0) hx hb dX5_move_19 (by decide) ?_
    exact hJ1 _ bo_0 _ _ hP hD hS _ (lv_sub hl [0, 1, 2] rfl) hg
  · replace hg := if_no hg hc
    refine lv_iload_n hx hb dX5_move_8 rfl (lv_at hl 2 rfl) ?_
    obtain ⟨v2, hq, hg⟩ := bind_ex hg
    refine callRSz (As := [.int x2]) (rest := []) S hK hP (c_X5_isField l D cI cZ cB cJ x2 v2 hq) [] rfl (va_cwS 1 hts gX5_move_X5_isField rfl rfl rfl hd_X5_isField ⟨Nat.le_of_ble_eq_true rfl, Nat.le_of_ble_eq_true rfl⟩) rfl hl.1 rfl (Nat.le_of_ble_eq_true rfl) dX5_move_9 ⟨Nat.zero_le _, Nat.zero_le _⟩ (fun hz_v2 => ?_)
    refine lv_if_eq (tgt := 19) hx hb dX5_move_12 (by decide) (fun hc => ?_) (fun hc => ?_)
    · replace hg := if_yes hg hc
      refine lv_iconst (v := 0) hx hb dX5_move_19 (by decide) ?_
      exact hJ1 _ bo_0 _ _ hP hD hS _ (lv_sub hl [0, 1, 2] rfl) hg
    · replace hg := if_no hg hc
      refine lv_iconst (v := 1) hx hb dX5_move_15 (by decide) ?_
      refine lv_goto (tgt := 20) hx hb dX5_move_16 (by decide) ?_
      exact hJ1 _ bo_1 _ _ hP hD hS _ (lv_sub hl [0, 1, 2] rfl) hg
theorem hd_X5_canSupport : yX5_canSupport.cls = RX5 ∧ yX5_canSupport.cls ≠ "java/lang/invoke/MethodHandle" ∧ yX5_canSupport.cls ≠ "java/lang/invoke/VarHandle" ∧ (parseMethodDescriptor yX5_canSupport.desc).map (fun d => d.parameters.length) = some 3 := by decide +kernel
abbrev rX5_canSupport : Room := { frames := 2, cells := 0, slots := 0, locals := 43 }
set_option maxHeartbeats 4000000 in
set_option maxRecDepth 100000 in
theorem c_X5_canSupport (l : Launch) (D : va_G) (cI cZ cB cJ : ClassId) (A_t : Nat) (A_t_s : Nat) (A_t_aside : Nat) (A_t_snapshot : Nat) (A_t_saved : Nat) (A_t_text : Nat) (A_t_counts : Nat) (A_t_isCut : Nat) (A_t_strength : Nat) (A_t_fails : Nat) (A_t_why : Nat) (A_t_driver : Nat) (A_t_place : Nat) (A_t_isDone : Nat) (V_t_thrown : Int32) (V_t_isKept : Int32) (V_t_savedMany : Int32) (V_t_length : Int32) (V_t_position : Int32) (V_t_isWrong : Int32) (V_t_digested : Int64) (V_t_s : Nat → Int32) (x1 : Int32) (x2 : Int32) (x3 : Int32) (r0 : Int32) (hg : g_X5_canSupport V_t_s x1 x2 x3 = some r0) : Met l yX5_canSupport wsX5_canSupport rX5_canSupport (PcR D cI cZ cB cJ [(A_t, .inr (5, [.int V_t_thrown, .ref A_t_s, .ref A_t_aside, .ref A_t_snapshot, .int V_t_isKept, .ref A_t_saved, .int V_t_savedMany, .ref A_t_text, .int V_t_length, .ref A_t_counts, .ref A_t_isCut, .ref A_t_strength, .ref A_t_fails, .ref A_t_why, .ref A_t_driver, .ref A_t_place, .ref A_t_isDone, .int V_t_position, .int V_t_isWrong, .long V_t_digested])), (A_t_s, .inl (cI, 77, .inl V_t_s))] [.ref A_t, .int x1, .int x2, .int x3]) (vp_Si (fun r' => r' = r0 ∧ bo r0)) 0 0 (fun _ => False) := by
  refine bodyRz (cc := cX5_canSupport) (maxL := 4) (lv := [(0, .ref A_t), (1, .int x1), (2, .int x2), (3, .int x3)]) (by decide) rfl (Nat.le_of_ble_eq_true rfl) rfl ?_
  intro p e s m args below meth c Q hx hb hml hown hts hP hK fin ls hl
  replace hown : s.vm.findClass RX5 = some m.cls := hown
  have S : CallFix p m c cX5_canSupport 4 s args wsX5_canSupport RX5 := ⟨hx, hb, hml, hown, hts⟩
  unfold g_X5_canSupport at hg
  refine lv_aload_n hx hb dX5_canSupport_0 rfl (lv_at hl 0 rfl) ?_
  refine lv_iload_n hx hb dX5_canSupport_1 rfl (lv_at hl 1 rfl) ?_
  refine lv_iconst (v := 1) hx hb dX5_canSupport_2 (by decide) ?_
  obtain ⟨v1, hq, hg⟩ := bind_ex hg
  refine callRVi (As := [.int x1, .int 1]) (rest := []) S hK hP (c_X5_of l D cI cZ cB cJ A_t A_t_s A_t_aside A_t_snapshot A_t_saved A_t_text A_t_counts A_t_isCut A_t_strength A_t_fails A_t_why A_t_driver A_t_place A_t_isDone V_t_thrown V_t_isKept V_t_savedMany V_t_length V_t_position V_t_isWrong V_t_digested V_t_s x1 1 v1 hq) [0, 1] rfl (cwV 2 hts gX5_canSupport_X5_of rfl rfl rfl hd_X5_of ⟨Nat.le_of_ble_eq_true rfl, Nat.le_of_ble_eq_true rfl⟩) rfl rfl rfl hl.1 rfl (Nat.le_of_ble_eq_true rfl) dX5_canSupport_3 ⟨Nat.zero_le _, Nat.zero_le _⟩ ?_
  refine lv_iload_n hx hb dX5_canSupport_6 rfl (lv_at hl 3 rfl) ?_
  obtain ⟨v2, hq, hg⟩ := bind_ex hg
  refine callRSz (As := [.int v1, .int x3]) (rest := []) S hK hP (c_X5_areNeighbours l D cI cZ cB cJ v1 x3 v2 hq) [] rfl (va_cwS 2 hts gX5_canSupport_X5_areNeighbours rfl rfl rfl hd_X5_areNeighbours ⟨Nat.le_of_ble_eq_true rfl, Nat.le_of_ble_eq_true rfl⟩) rfl hl.1 rfl (Nat.le_of_ble_eq_true rfl) dX5_canSupport_7 ⟨Nat.zero_le _, Nat.zero_le _⟩ (fun hz_v2 => ?_)
  refine lv_if_eq (tgt := 30) hx hb dX5_canSupport_10 (by decide) (fun hc => ?_) (fun hc => ?_)
  · replace hg := if_yes hg hc
    refine lv_iconst (v := 0) hx hb dX5_canSupport_30 (by decide) ?_
    cases hg
    exact fin _ _ bo_0 dX5_canSupport_31
  · replace hg := if_no hg hc
    refine lv_iload_n hx hb dX5_canSupport_13 rfl (lv_at hl 2 rfl) ?_
    refine lv_iload_n hx hb dX5_canSupport_14 rfl (lv_at hl 3 rfl) ?_
    refine lv_icmp_eq (tgt := 26) hx hb dX5_canSupport_15 (by decide) (fun hc => ?_) (fun hc => ?_)
    · replace hg := if_yes hg hc
      refine lv_iconst (v := 1) hx hb dX5_canSupport_26 (by decide) ?_
      refine lv_goto (tgt := 31) hx hb dX5_canSupport_27 (by decide) ?_
      cases hg
      exact fin _ _ bo_1 dX5_canSupport_31
    · replace hg := if_no hg hc
      refine lv_iload_n hx hb dX5_canSupport_18 rfl (lv_at hl 2 rfl) ?_
      refine lv_iload_n hx hb dX5_canSupport_19 rfl (lv_at hl 3 rfl) ?_
      obtain ⟨v3, hq, hg⟩ := bind_ex hg
      refine callRSz (As := [.int x2, .int x3]) (rest := []) S hK hP (c_X5_areNeighbours l D cI cZ cB cJ x2 x3 v3 hq) [] rfl (va_cwS 2 hts gX5_canSupport_X5_areNeighbours rfl rfl rfl hd_X5_areNeighbours ⟨Nat.le_of_ble_eq_true rfl, Nat.le_of_ble_eq_true rfl⟩) rfl hl.1 rfl (Nat.le_of_ble_eq_true rfl) dX5_canSupport_20 ⟨Nat.zero_le _, Nat.zero_le _⟩ (fun hz_v3 => ?_)
      refine lv_if_eq (tgt := 30) hx hb dX5_canSupport_23 (by decide) (fun hc => ?_) (fun hc => ?_)
      · replace hg := if_yes hg hc
        refine lv_iconst (v := 0) hx hb dX5_canSupport_30 (by decide) ?_
        cases hg
        exact fin _ _ bo_0 dX5_canSupport_31
      · replace hg := if_no hg hc
        refine lv_iconst (v := 1) hx hb dX5_canSupport_26 (by decide) ?_
        refine lv_goto (tgt := 31) hx hb dX5_canSupport_27 (by decide) ?_
        cases hg
        exact fin _ _ bo_1 dX5_canSupport_31
theorem hd_X5_support : yX5_support.cls = RX5 ∧ yX5_support.cls ≠ "java/lang/invoke/MethodHandle" ∧ yX5_support.cls ≠ "java/lang/invoke/VarHandle" ∧ (parseMethodDescriptor yX5_support.desc).map (fun d => d.parameters.length) = some 3 := by decide +kernel
abbrev rX5_support : Room := { frames := 3, cells := 0, slots := 0, locals := 70 }
set_option maxHeartbeats 4000000 in
set_option maxRecDepth 100000 in
theorem c_X5_support (l : Launch) (D : va_G) (cI cZ cB cJ : ClassId) (A_t : Nat) (A_t_s : Nat) (A_t_aside : Nat) (A_t_snapshot : Nat) (A_t_saved : Nat) (A_t_text : Nat) (A_t_counts : Nat) (A_t_isCut : Nat) (A_t_strength : Nat) (A_t_fails : Nat) (A_t_why : Nat) (A_t_driver : Nat) (A_t_place : Nat) (A_t_isDone : Nat) (sz : Nat) (V_t_thrown : Int32) (V_t_isKept : Int32) (V_t_savedMany : Int32) (V_t_length : Int32) (V_t_position : Int32) (V_t_isWrong : Int32) (V_t_digested : Int64) (V_t_s : Nat → Int32) (V_t_saved : Nat → Int32) (x1 : Int32) (x2 : Int32) (x3 : Int32) (r0 : Int32) (w1 : Int32) (w2 : Int32) (w3 : Nat → Int32) (w4 : Nat → Int32) (hg : g_X5_support V_t_thrown V_t_savedMany V_t_s V_t_saved x1 x2 x3 = some (r0, w1, w2, w3, w4)) : Met l yX5_support wsX5_support rX5_support (PcW D cI cZ cB cJ sz [(A_t, .inr (5, [.int V_t_thrown, .ref A_t_s, .ref A_t_aside, .ref A_t_snapshot, .int V_t_isKept, .ref A_t_saved, .int V_t_savedMany, .ref A_t_text, .int V_t_length, .ref A_t_counts, .ref A_t_isCut, .ref A_t_strength, .ref A_t_fails, .ref A_t_why, .ref A_t_driver, .ref A_t_place, .ref A_t_isDone, .int V_t_position, .int V_t_isWrong, .long V_t_digested])), (A_t_s, .inl (cI, 77, .inl V_t_s)), (A_t_saved, .inl (cI, 462, .inl V_t_saved))] [.ref A_t, .int x1, .int x2, .int x3]) (QWi D cI cZ cB cJ sz [(A_t, .inr (5, [.int V_t_thrown, .ref A_t_s, .ref A_t_aside, .ref A_t_snapshot, .int V_t_isKept, .ref A_t_saved, .int V_t_savedMany, .ref A_t_text, .int V_t_length, .ref A_t_counts, .ref A_t_isCut, .ref A_t_strength, .ref A_t_fails, .ref A_t_why, .ref A_t_driver, .ref A_t_place, .ref A_t_isDone, .int V_t_position, .int V_t_isWrong, .long V_t_digested])), (A_t_s, .inl (cI, 77, .inl V_t_s)), (A_t_saved, .inl (cI, 462, .inl V_t_saved))] [(A_t, .inr (5, [.int w1, .ref A_t_s, .ref A_t_aside, .ref A_t_snapshot, .int V_t_isKept, .ref A_t_saved, .int w2, .ref A_t_text, .int V_t_length, .ref A_t_counts, .ref A_t_isCut, .ref A_t_strength, .ref A_t_fails, .ref A_t_why, .ref A_t_driver, .ref A_t_place, .ref A_t_isDone, .int V_t_position, .int V_t_isWrong, .long V_t_digested])), (A_t_s, .inl (cI, 77, .inl w3)), (A_t_saved, .inl (cI, 462, .inl w4))] r0) 0 0 (va_A [(A_t, .inr (5, [.int V_t_thrown, .ref A_t_s, .ref A_t_aside, .ref A_t_snapshot, .int V_t_isKept, .ref A_t_saved, .int V_t_savedMany, .ref A_t_text, .int V_t_length, .ref A_t_counts, .ref A_t_isCut, .ref A_t_strength, .ref A_t_fails, .ref A_t_why, .ref A_t_driver, .ref A_t_place, .ref A_t_isDone, .int V_t_position, .int V_t_isWrong, .long V_t_digested])), (A_t_s, .inl (cI, 77, .inl V_t_s)), (A_t_saved, .inl (cI, 462, .inl V_t_saved))] sz) := by
  refine bodyWi (cc := cX5_support) (maxL := 5) (lv := [(0, .ref A_t), (1, .int x1), (2, .int x2), (3, .int x3)]) (by decide) rfl (Nat.le_of_ble_eq_true rfl) rfl ?_
  intro p e s m args below meth c Q hx hb hml hown hts A hP hK hD hA hS fin ls hl
  replace hown : s.vm.findClass RX5 = some m.cls := hown
  have S : CallFix p m c cX5_support 5 s args wsX5_support RX5 := ⟨hx, hb, hml, hown, hts⟩
  unfold g_X5_support at hg
  refine lv_aload_n hx hb dX5_support_0 rfl (lv_at hl 0 rfl) ?_
  refine lv_iload_n hx hb dX5_support_1 rfl (lv_at hl 1 rfl) ?_
  obtain ⟨v1, hq, hg⟩ := bind_ex hg
  refine callRVz (As := [.int x1]) (rest := []) S hK hP (c_X5_isArmy l D cI cZ cB cJ A_t A_t_s A_t_aside A_t_snapshot A_t_saved A_t_text A_t_counts A_t_isCut A_t_strength A_t_fails A_t_why A_t_driver A_t_place A_t_isDone V_t_thrown V_t_isKept V_t_savedMany V_t_length V_t_position V_t_isWrong V_t_digested V_t_s x1 v1 hq) [0, 1] rfl (cwV 1 hts gX5_support_X5_isArmy rfl rfl rfl hd_X5_isArmy ⟨Nat.le_of_ble_eq_true rfl, Nat.le_of_ble_eq_true rfl⟩) rfl rfl rfl hl.1 rfl (Nat.le_of_ble_eq_true rfl) dX5_support_2 ⟨Nat.zero_le _, Nat.zero_le _⟩ (fun hz_v1 => ?_)
  have hJ1 : ∀ (v4 : Int32), bo v4 → ∀ (H : Heap) (locs : List Loc), va_P D vwCl [(A_t, .inr (5, [.int V_t_thrown, .ref A_t_s, .ref A_t_aside, .ref A_t_snapshot, .int V_t_isKept, .ref A_t_saved, .int V_t_savedMany, .ref A_t_text, .int V_t_length, .ref A_t_counts, .ref A_t_isCut, .ref A_t_strength, .ref A_t_fails, .ref A_t_why, .ref A_t_driver, .ref A_t_place, .ref A_t_isDone, .int V_t_position, .int V_t_isWrong, .long V_t_digested])), (A_t_s, .inl (cI, 77, .inl V_t_s)), (A_t_saved, .inl (cI, 462, .inl V_t_saved))] H → va_D A [(A_t, .inr (5, [.int V_t_thrown, .ref A_t_s, .ref A_t_aside, .ref A_t_snapshot, .int V_t_isKept, .ref A_t_saved, .int V_t_savedMany, .ref A_t_text, .int V_t_length, .ref A_t_counts, .ref A_t_isCut, .ref A_t_strength, .ref A_t_fails, .ref A_t_why, .ref A_t_driver, .ref A_t_place, .ref A_t_isDone, .int V_t_position, .int V_t_isWrong, .long V_t_digested])), (A_t_s, .inl (cI, 77, .inl V_t_s)), (A_t_saved, .inl (cI, 462, .inl V_t_saved))] → va_S A s.heap H locs → ∀ ls : Array Slot, lv_has ls 5 [(0, .ref A_t), (1, .int x1), (2, .int x2), (3, .int x3)] → g_X5_support_J1 V_t_thrown V_t_savedMany V_t_s V_t_saved x1 x3 x2 v4 = some (r0, w1, w2, w3, w4) → W p l e rX5_support s m args below meth c H locs 0 0 Q (F0 m 27 ls [.int v4]) := by
    intro v4 hz_v4 H locs hP hD hS ls hl hg
    unfold g_X5_support_J1 at hg
    refine lv_istore (lv' := [(4, .int v4), (0, .ref A_t), (1, .int x1), (2, .int x2), (3, .int x3)]) hx hb dX5_support_27 hl (by decide) rfl (fun ls hl => ?_)
    refine lv_aload_n hx hb dX5_support_29 rfl (lv_at hl 1 rfl) ?_
    refine lv_iload hx hb dX5_support_30 (lv_at hl 0 rfl) ?_
    have hJ2 : ∀ (v6 : Int32), ∀ (H : Heap) (locs : List Loc), va_P D vwCl [(A_t, .inr (5, [.int V_t_thrown, .ref A_t_s, .ref A_t_aside, .ref A_t_snapshot, .int V_t_isKept, .ref A_t_saved, .int V_t_savedMany, .ref A_t_text, .int V_t_length, .ref A_t_counts, .ref A_t_isCut, .ref A_t_strength, .ref A_t_fails, .ref A_t_why, .ref A_t_driver, .ref A_t_place, .ref A_t_isDone, .int V_t_position, .int V_t_isWrong, .long V_t_digested])), (A_t_s, .inl (cI, 77, .inl V_t_s)), (A_t_saved, .inl (cI, 462, .inl V_t_saved))] H → va_D A [(A_t, .inr (5, [.int V_t_thrown, .ref A_t_s, .ref A_t_aside, .ref A_t_snapshot, .int V_t_isKept, .ref A_t_saved, .int V_t_savedMany, .ref A_t_text, .int V_t_length, .ref A_t_counts, .ref A_t_isCut, .ref A_t_strength, .ref A_t_fails, .ref A_t_why, .ref A_t_driver, .ref A_t_place, .ref A_t_isDone, .int V_t_position, .int V_t_isWrong, .long V_t_digested])), (A_t_s, .inl (cI, 77, .inl V_t_s)), (A_t_saved, .inl (cI, 462, .inl V_t_saved))] → va_S A s.heap H locs → ∀ ls : Array Slot, lv_has ls 5 [(0, .ref A_t), (1, .int x1), (2, .int x2), (3, .int x3)] → g_X5_support_J2 V_t_thrown V_t_savedMany V_t_s V_t_saved x1 x3 x2 v6 = some (r0, w1, w2, w3, w4) → W p l e rX5_support s m args below meth c H locs 0 0 Q (F0 m 54 ls [.int v6, .ref A_t]) := by
      intro v6 H locs hP hD hS ls hl hg
      unfold g_X5_support_J2 at hg
      obtain ⟨v8, v7, hq, hg⟩ := b2_ex hg
      refine callWVz (As := [.int v6]) (rest := []) (wr := [(A_t_s, .inl (cI, 77, .inl V_t_s)), (A_t_saved, .inl (cI, 462, .inl V_t_saved))]) S hK hP hD hS hA (c_X5_holds l D cI cZ cB cJ A_t A_t_s A_t_aside A_t_snapshot A_t_saved A_t_text A_t_counts A_t_isCut A_t_strength A_t_fails A_t_why A_t_driver A_t_place A_t_isDone _ V_t_thrown V_t_isKept V_t_savedMany V_t_length V_t_position V_t_isWrong V_t_digested v6 v8 v7 hq) [0] [1, 2] rfl rfl (by decide +kernel) (by decide +kernel) (by decide +kernel) (cwV 1 hts gX5_support_X5_holds rfl rfl rfl hd_X5_holds ⟨Nat.le_of_ble_eq_true rfl, Nat.le_of_ble_eq_true rfl⟩) rfl rfl rfl hl.1 rfl (Nat.le_of_ble_eq_true rfl) dX5_support_54 ⟨Nat.zero_le _, Nat.zero_le _⟩ (fun hz_v8 H locs hP hD hS => ?_)
      replace hP : va_P D vwCl [(A_t_s, .inl (cI, 77, .inl V_t_s)), (A_t_saved, .inl (cI, 462, .inl V_t_saved)), (A_t, .inr (5, [.int v7, .ref A_t_s, .ref A_t_aside, .ref A_t_snapshot, .int V_t_isKept, .ref A_t_saved, .int V_t_savedMany, .ref A_t_text, .int V_t_length, .ref A_t_counts, .ref A_t_isCut, .ref A_t_strength, .ref A_t_fails, .ref A_t_why, .ref A_t_driver, .ref A_t_place, .ref A_t_isDone, .int V_t_position, .int V_t_isWrong, .long V_t_digested]))] H := hP
      replace hD : va_D A [(A_t_s, .inl (cI, 77, .inl V_t_s)), (A_t_saved, .inl (cI, 462, .inl V_t_saved)), (A_t, .inr (5, [.int v7, .ref A_t_s, .ref A_t_aside, .ref A_t_snapshot, .int V_t_isKept, .ref A_t_saved, .int V_t_savedMany, .ref A_t_text, .int V_t_length, .ref A_t_counts, .ref A_t_isCut, .ref A_t_strength, .ref A_t_fails, .ref A_t_why, .ref A_t_driver, .ref A_t_place, .ref A_t_isDone, .int V_t_position, .int V_t_isWrong, .long V_t_digested]))] := hD
      refine lv_if_eq (tgt := 71) hx hb dX5_support_57 (by decide) (fun hc => ?_) (fun hc => ?_)
      · replace hg := if_yes hg hc
        refine lv_iconst (v := 0) hx hb dX5_support_71 (by decide) ?_
        cases hg
        exact fin _ _ _ _ dX5_support_72 (hP.sub [2, 0, 1] rfl) (hD.sub [2, 0, 1] (by decide) rfl) hS
      · replace hg := if_no hg hc
        refine lv_aload_n hx hb dX5_support_60 rfl (lv_at hl 0 rfl) ?_
        refine lv_iload_n hx hb dX5_support_61 rfl (lv_at hl 1 rfl) ?_
        refine lv_iconst (v := 2) hx hb dX5_support_62 (by decide) ?_
        refine lv_iload_n hx hb dX5_support_63 rfl (lv_at hl 3 rfl) ?_
        refine lv_iload_n hx hb dX5_support_64 rfl (lv_at hl 2 rfl) ?_
        obtain ⟨v12, v9, f10, f11, hq, hg⟩ := b4_ex hg
        refine callWV (As := [.int x1, .int 2, .int x3, .int x2]) (rest := []) (wr := []) S hK hP hD hS hA (c_X5_ordered l D cI cZ cB cJ A_t A_t_s A_t_aside A_t_snapshot A_t_saved A_t_text A_t_counts A_t_isCut A_t_strength A_t_fails A_t_why A_t_driver A_t_place A_t_isDone _ v7 V_t_isKept V_t_savedMany V_t_length V_t_position V_t_isWrong V_t_digested V_t_s V_t_saved x1 2 x3 x2 v12 v9 f10 f11 hq) [2, 0, 1] [] rfl rfl (by decide +kernel) (by decide +kernel) (by decide +kernel) (cwV 4 hts gX5_support_X5_ordered rfl rfl rfl hd_X5_ordered ⟨Nat.le_of_ble_eq_true rfl, Nat.le_of_ble_eq_true rfl⟩) rfl rfl rfl hl.1 rfl (Nat.le_of_ble_eq_true rfl) dX5_support_65 ⟨Nat.zero_le _, Nat.zero_le _⟩ (fun H locs hP hD hS => ?_)
        replace hP : va_P D vwCl [(A_t, .inr (5, [.int v7, .ref A_t_s, .ref A_t_aside, .ref A_t_snapshot, .int V_t_isKept, .ref A_t_saved, .int v9, .ref A_t_text, .int V_t_length, .ref A_t_counts, .ref A_t_isCut, .ref A_t_strength, .ref A_t_fails, .ref A_t_why, .ref A_t_driver, .ref A_t_place, .ref A_t_isDone, .int V_t_position, .int V_t_isWrong, .long V_t_digested])), (A_t_s, .inl (cI, 77, .inl f10)), (A_t_saved, .inl (cI, 462, .inl f11))] H := hP
        replace hD : va_D A [(A_t, .inr (5, [.int v7, .ref A_t_s, .ref A_t_aside, .ref A_t_snapshot, .int V_t_isKept, .ref A_t_saved, .int v9, .ref A_t_text, .int V_t_length, .ref A_t_counts, .ref A_t_isCut, .ref A_t_strength, .ref A_t_fails, .ref A_t_why, .ref A_t_driver, .ref A_t_place, .ref A_t_isDone, .int V_t_position, .int V_t_isWrong, .long V_t_digested])), (A_t_s, .inl (cI, 77, .inl f10)), (A_t_saved, .inl (cI, 462, .inl f11))] := hD
        refine lv_goto (tgt := 72) hx hb dX5_support_68 (by decide) ?_
        cases hg
        exact fin _ _ _ _ dX5_support_72 hP hD hS
    refine lv_if_ne (tgt := 39) hx hb dX5_support_32 (by decide) (fun hc => ?_) (fun hc => ?_)
    · replace hg := if_no hg hc
      refine lv_aload_n hx hb dX5_support_39 rfl (lv_at hl 1 rfl) ?_
      refine lv_iload_n hx hb dX5_support_40 rfl (lv_at hl 2 rfl) ?_
      refine lv_iload_n hx hb dX5_support_41 rfl (lv_at hl 3 rfl) ?_
      refine lv_iload_n hx hb dX5_support_42 rfl (lv_at hl 4 rfl) ?_
      obtain ⟨v5, hq, hg⟩ := bind_ex hg
      refine callRVz (As := [.int x1, .int x2, .int x3]) (rest := [.ref A_t]) S hK hP (c_X5_canSupport l D cI cZ cB cJ A_t A_t_s A_t_aside A_t_snapshot A_t_saved A_t_text A_t_counts A_t_isCut A_t_strength A_t_fails A_t_why A_t_driver A_t_place A_t_isDone V_t_thrown V_t_isKept V_t_savedMany V_t_length V_t_position V_t_isWrong V_t_digested V_t_s x1 x2 x3 v5 hq) [0, 1] rfl (cwV 3 hts gX5_support_X5_canSupport rfl rfl rfl hd_X5_canSupport ⟨Nat.le_of_ble_eq_true rfl, Nat.le_of_ble_eq_true rfl⟩) rfl rfl rfl hl.1 rfl (Nat.le_of_ble_eq_true rfl) dX5_support_43 ⟨Nat.zero_le _, Nat.zero_le _⟩ (fun hz_v5 => ?_)
      refine lv_if_ne (tgt := 53) hx hb dX5_support_46 (by decide) (fun hc => ?_) (fun hc => ?_)
      · replace hg := if_no hg hc
        refine lv_iconst (v := 0) hx hb dX5_support_53 (by decide) ?_
        exact hJ2 _ _ _ hP hD hS _ (lv_sub hl [1, 2, 3, 4] rfl) hg
      · replace hg := if_yes hg hc
        refine lv_iconst (v := 2) hx hb dX5_support_49 (by decide) ?_
        refine lv_goto (tgt := 54) hx hb dX5_support_50 (by decide) ?_
        exact hJ2 _ _ _ hP hD hS _ (lv_sub hl [1, 2, 3, 4] rfl) hg
    · replace hg := if_yes hg hc
      refine lv_iconst (v := 1) hx hb dX5_support_35 (by decide) ?_
      refine lv_goto (tgt := 54) hx hb dX5_support_36 (by decide) ?_
      exact hJ2 _ _ _ hP hD hS _ (lv_sub hl [1, 2, 3, 4] rfl) hg
  refine lv_if_eq (tgt := 26) hx hb dX5_support_5 (by decide) (fun hc => ?_) (fun hc => ?_)
  · replace hg := if_yes hg hc
    refine lv_iconst (v := 0) hx hb dX5_support_26 (by decide) ?_
    exact hJ1 _ bo_0 _ _ hP hD hS _ (lv_sub hl [0, 1, 2, 3] rfl) hg
  · replace hg := if_no hg hc
    refine lv_iload_n hx hb dX5_support_8 rfl (lv_at hl 2 rfl) ?_
    obtain ⟨v2, hq, hg⟩ := bind_ex hg
    refine callRSz (As := [.int x2]) (rest := []) S hK hP (c_X5_isField l D cI cZ cB cJ x2 v2 hq) [] rfl (va_cwS 1 hts gX5_support_X5_isField rfl rfl rfl hd_X5_isField ⟨Nat.le_of_ble_eq_true rfl, Nat.le_of_ble_eq_true rfl⟩) rfl hl.1 rfl (Nat.le_of_ble_eq_true rfl) dX5_support_9 ⟨Nat.zero_le _, Nat.zero_le _⟩ (fun hz_v2 => ?_)
    refine lv_if_eq (tgt := 26) hx hb dX5_support_12 (by decide) (fun hc => ?_) (fun hc => ?_)
    · replace hg := if_yes hg hc
      refine lv_iconst (v := 0) hx hb dX5_support_26 (by decide) ?_
      exact hJ1 _ bo_0 _ _ hP hD hS _ (lv_sub hl [0, 1, 2, 3] rfl) hg
    · replace hg := if_no hg hc
      refine lv_iload_n hx hb dX5_support_15 rfl (lv_at hl 3 rfl) ?_
      obtain ⟨v3, hq, hg⟩ := bind_ex hg
      refine callRSz (As := [.int x3]) (rest := []) S hK hP (c_X5_isField l D cI cZ cB cJ x3 v3 hq) [] rfl (va_cwS 1 hts gX5_support_X5_isField rfl rfl rfl hd_X5_isField ⟨Nat.le_of_ble_eq_true rfl, Nat.le_of_ble_eq_true rfl⟩) rfl hl.1 rfl (Nat.le_of_ble_eq_true rfl) dX5_support_16 ⟨Nat.zero_le _, Nat.zero_le _⟩ (fun hz_v3 => ?_)
      refine lv_if_eq (tgt := 26) hx hb dX5_support_19 (by decide) (fun hc => ?_) (fun hc => ?_)
      · replace hg := if_yes hg hc
        refine lv_iconst (v := 0) hx hb dX5_support_26 (by decide) ?_
        exact hJ1 _ bo_0 _ _ hP hD hS _ (lv_sub hl [0, 1, 2, 3] rfl) hg
      · replace hg := if_no hg hc
        refine lv_iconst (v := 1) hx hb dX5_support_22 (by decide) ?_
        refine lv_goto (tgt := 27) hx hb dX5_support_23 (by decide) ?_
        exact hJ1 _ bo_1 _ _ hP hD hS _ (lv_sub hl [0, 1, 2, 3] rfl) hg
theorem hd_X5_open : yX5_open.cls = RX5 ∧ yX5_open.cls ≠ "java/lang/invoke/MethodHandle" ∧ yX5_open.cls ≠ "java/lang/invoke/VarHandle" ∧ (parseMethodDescriptor yX5_open.desc).map (fun d => d.parameters.length) = some 0 := by decide +kernel
theorem in_X5_open_X5 : ∀ w ∈ u_ws RX5 TX5 20, w ∈ wsX5_open := fun _ h => List.mem_cons_of_mem _ (List.mem_append_right _ h)
theorem wd_X5_open_1 : Cond.fieldLink RX5 50 "FogOrdersModel" "thrown" "I" ∈ wsX5_open := List.mem_of_getElem? (i := 1) rfl
theorem wd_X5_open_2 : Cond.fieldLink RX5 7 "FogOrdersModel" "s" "[I" ∈ wsX5_open := List.mem_of_getElem? (i := 2) rfl
abbrev rX5_open : Room := { frames := 8, cells := 0, slots := 0, locals := 178 }
set_option maxHeartbeats 4000000 in
set_option maxRecDepth 100000 in
theorem c_X5_open (l : Launch) (D : va_G) (cI cZ cB cJ : ClassId) (A_t : Nat) (A_t_s : Nat) (A_t_aside : Nat) (A_t_snapshot : Nat) (A_t_saved : Nat) (A_t_text : Nat) (A_t_counts : Nat) (A_t_isCut : Nat) (A_t_strength : Nat) (A_t_fails : Nat) (A_t_why : Nat) (A_t_driver : Nat) (A_t_place : Nat) (A_t_isDone : Nat) (sz : Nat) (V_t_thrown : Int32) (V_t_isKept : Int32) (V_t_savedMany : Int32) (V_t_length : Int32) (V_t_position : Int32) (V_t_isWrong : Int32) (V_t_digested : Int64) (V_t_s : Nat → Int32) (V_t_saved : Nat → Int32) (V_t_isCut : Nat → Int32) (V_t_counts : Nat → Int32) (V_t_strength : Nat → Int32) (V_t_fails : Nat → Int32) (V_t_driver : Nat → Int32) (V_t_why : Nat → Int32) (V_t_isDone : Nat → Int32) (V_t_place : Nat → Int32) (r0 : Int32) (w1 : Int32) (w2 : Int32) (w3 : Nat → Int32) (w4 : Nat → Int32) (w5 : Nat → Int32) (w6 : Nat → Int32) (w7 : Nat → Int32) (w8 : Nat → Int32) (w9 : Nat → Int32) (w10 : Nat → Int32) (w11 : Nat → Int32) (w12 : Nat → Int32) (hg : g_X5_open V_t_thrown V_t_savedMany V_t_s V_t_saved V_t_isCut V_t_counts V_t_strength V_t_fails V_t_driver V_t_why V_t_isDone V_t_place = some (r0, w1, w2, w3, w4, w5, w6, w7, w8, w9, w10, w11, w12)) : Met l yX5_open wsX5_open rX5_open (PcW D cI cZ cB cJ sz [(A_t, .inr (5, [.int V_t_thrown, .ref A_t_s, .ref A_t_aside, .ref A_t_snapshot, .int V_t_isKept, .ref A_t_saved, .int V_t_savedMany, .ref A_t_text, .int V_t_length, .ref A_t_counts, .ref A_t_isCut, .ref A_t_strength, .ref A_t_fails, .ref A_t_why, .ref A_t_driver, .ref A_t_place, .ref A_t_isDone, .int V_t_position, .int V_t_isWrong, .long V_t_digested])), (A_t_s, .inl (cI, 77, .inl V_t_s)), (A_t_saved, .inl (cI, 462, .inl V_t_saved)), (A_t_isCut, .inl (cZ, 9, .inl V_t_isCut)), (A_t_counts, .inl (cZ, 9, .inl V_t_counts)), (A_t_strength, .inl (cI, 9, .inl V_t_strength)), (A_t_fails, .inl (cZ, 9, .inl V_t_fails)), (A_t_driver, .inl (cI, 9, .inl V_t_driver)), (A_t_why, .inl (cI, 9, .inl V_t_why)), (A_t_isDone, .inl (cZ, 9, .inl V_t_isDone)), (A_t_place, .inl (cI, 9, .inl V_t_place))] [.ref A_t]) (QWi D cI cZ cB cJ sz [(A_t, .inr (5, [.int V_t_thrown, .ref A_t_s, .ref A_t_aside, .ref A_t_snapshot, .int V_t_isKept, .ref A_t_saved, .int V_t_savedMany, .ref A_t_text, .int V_t_length, .ref A_t_counts, .ref A_t_isCut, .ref A_t_strength, .ref A_t_fails, .ref A_t_why, .ref A_t_driver, .ref A_t_place, .ref A_t_isDone, .int V_t_position, .int V_t_isWrong, .long V_t_digested])), (A_t_s, .inl (cI, 77, .inl V_t_s)), (A_t_saved, .inl (cI, 462, .inl V_t_saved)), (A_t_isCut, .inl (cZ, 9, .inl V_t_isCut)), (A_t_counts, .inl (cZ, 9, .inl V_t_counts)), (A_t_strength, .inl (cI, 9, .inl V_t_strength)), (A_t_fails, .inl (cZ, 9, .inl V_t_fails)), (A_t_driver, .inl (cI, 9, .inl V_t_driver)), (A_t_why, .inl (cI, 9, .inl V_t_why)), (A_t_isDone, .inl (cZ, 9, .inl V_t_isDone)), (A_t_place, .inl (cI, 9, .inl V_t_place))] [(A_t, .inr (5, [.int w1, .ref A_t_s, .ref A_t_aside, .ref A_t_snapshot, .int V_t_isKept, .ref A_t_saved, .int w2, .ref A_t_text, .int V_t_length, .ref A_t_counts, .ref A_t_isCut, .ref A_t_strength, .ref A_t_fails, .ref A_t_why, .ref A_t_driver, .ref A_t_place, .ref A_t_isDone, .int V_t_position, .int V_t_isWrong, .long V_t_digested])), (A_t_s, .inl (cI, 77, .inl w3)), (A_t_saved, .inl (cI, 462, .inl w4)), (A_t_isCut, .inl (cZ, 9, .inl w5)), (A_t_counts, .inl (cZ, 9, .inl w6)), (A_t_strength, .inl (cI, 9, .inl w7)), (A_t_fails, .inl (cZ, 9, .inl w8)), (A_t_driver, .inl (cI, 9, .inl w9)), (A_t_why, .inl (cI, 9, .inl w10)), (A_t_isDone, .inl (cZ, 9, .inl w11)), (A_t_place, .inl (cI, 9, .inl w12))] r0) 0 0 (va_A [(A_t, .inr (5, [.int V_t_thrown, .ref A_t_s, .ref A_t_aside, .ref A_t_snapshot, .int V_t_isKept, .ref A_t_saved, .int V_t_savedMany, .ref A_t_text, .int V_t_length, .ref A_t_counts, .ref A_t_isCut, .ref A_t_strength, .ref A_t_fails, .ref A_t_why, .ref A_t_driver, .ref A_t_place, .ref A_t_isDone, .int V_t_position, .int V_t_isWrong, .long V_t_digested])), (A_t_s, .inl (cI, 77, .inl V_t_s)), (A_t_saved, .inl (cI, 462, .inl V_t_saved)), (A_t_isCut, .inl (cZ, 9, .inl V_t_isCut)), (A_t_counts, .inl (cZ, 9, .inl V_t_counts)), (A_t_strength, .inl (cI, 9, .inl V_t_strength)), (A_t_fails, .inl (cZ, 9, .inl V_t_fails)), (A_t_driver, .inl (cI, 9, .inl V_t_driver)), (A_t_why, .inl (cI, 9, .inl V_t_why)), (A_t_isDone, .inl (cZ, 9, .inl V_t_isDone)), (A_t_place, .inl (cI, 9, .inl V_t_place))] sz) := by
  refine bodyWi (cc := cX5_open) (maxL := 2) (lv := [(0, .ref A_t)]) (by decide) rfl (Nat.le_of_ble_eq_true rfl) rfl ?_
  intro p e s m args below meth c Q hx hb hml hown hts A hP hK hD hA hS fin ls hl
  replace hown : s.vm.findClass RX5 = some m.cls := hown
  have S : CallFix p m c cX5_open 2 s args wsX5_open RX5 := ⟨hx, hb, hml, hown, hts⟩
  unfold g_X5_open at hg
  refine lv_aload_n hx hb dX5_open_0 rfl (lv_at hl 0 rfl) ?_
  refine lv_iconst (v := 0) hx hb dX5_open_1 (by decide) ?_
  refine xput (ci := 5) (C := RX5) (T := TX5) (N := 20) (ty := .int) (v := .int 0) (ws2 := [(A_t, .inr (5, [.int 0, .ref A_t_s, .ref A_t_aside, .ref A_t_snapshot, .int V_t_isKept, .ref A_t_saved, .int V_t_savedMany, .ref A_t_text, .int V_t_length, .ref A_t_counts, .ref A_t_isCut, .ref A_t_strength, .ref A_t_fails, .ref A_t_why, .ref A_t_driver, .ref A_t_place, .ref A_t_isDone, .int V_t_position, .int V_t_isWrong, .long V_t_digested])), (A_t_s, .inl (cI, 77, .inl V_t_s)), (A_t_saved, .inl (cI, 462, .inl V_t_saved)), (A_t_isCut, .inl (cZ, 9, .inl V_t_isCut)), (A_t_counts, .inl (cZ, 9, .inl V_t_counts)), (A_t_strength, .inl (cI, 9, .inl V_t_strength)), (A_t_fails, .inl (cZ, 9, .inl V_t_fails)), (A_t_driver, .inl (cI, 9, .inl V_t_driver)), (A_t_why, .inl (cI, 9, .inl V_t_why)), (A_t_isDone, .inl (cZ, 9, .inl V_t_isDone)), (A_t_place, .inl (cI, 9, .inl V_t_place))]) hx hb hts in_X5_open_X5 tyX5 tyX5_ok nmX5 hown hK hP hD hS 0 rfl rfl 0 (by decide) wd_X5_open_1 rfl (by decide +kernel) rfl rfl (Nat.le_of_ble_eq_true rfl) rfl dX5_open_2 (fun H locs hP hD hS => ?_)
  refine lv_aload_n hx hb dX5_open_5 rfl (lv_at hl 0 rfl) ?_
  obtain ⟨v1, f2, hq, hg⟩ := b2_ex hg
  refine callWVv (As := []) (rest := []) (wr := [(A_t_isCut, .inl (cZ, 9, .inl V_t_isCut)), (A_t_counts, .inl (cZ, 9, .inl V_t_counts)), (A_t_strength, .inl (cI, 9, .inl V_t_strength)), (A_t_fails, .inl (cZ, 9, .inl V_t_fails)), (A_t_driver, .inl (cI, 9, .inl V_t_driver)), (A_t_why, .inl (cI, 9, .inl V_t_why)), (A_t_isDone, .inl (cZ, 9, .inl V_t_isDone)), (A_t_place, .inl (cI, 9, .inl V_t_place))]) S hK hP hD hS hA (c_X5_save l D cI cZ cB cJ A_t A_t_s A_t_aside A_t_snapshot A_t_saved A_t_text A_t_counts A_t_isCut A_t_strength A_t_fails A_t_why A_t_driver A_t_place A_t_isDone _ 0 V_t_isKept V_t_savedMany V_t_length V_t_position V_t_isWrong V_t_digested V_t_s V_t_saved v1 f2 hq) [0, 1, 2] [3, 4, 5, 6, 7, 8, 9, 10] rfl rfl (by decide +kernel) (by decide +kernel) (by decide +kernel) (cwV 0 hts gX5_open_X5_save rfl rfl rfl hd_X5_save ⟨Nat.le_of_ble_eq_true rfl, Nat.le_of_ble_eq_true rfl⟩) rfl rfl rfl hl.1 rfl (Nat.le_of_ble_eq_true rfl) dX5_open_6 ⟨Nat.zero_le _, Nat.zero_le _⟩ (fun H locs hP hD hS => ?_)
  replace hP : va_P D vwCl [(A_t_isCut, .inl (cZ, 9, .inl V_t_isCut)), (A_t_counts, .inl (cZ, 9, .inl V_t_counts)), (A_t_strength, .inl (cI, 9, .inl V_t_strength)), (A_t_fails, .inl (cZ, 9, .inl V_t_fails)), (A_t_driver, .inl (cI, 9, .inl V_t_driver)), (A_t_why, .inl (cI, 9, .inl V_t_why)), (A_t_isDone, .inl (cZ, 9, .inl V_t_isDone)), (A_t_place, .inl (cI, 9, .inl V_t_place)), (A_t, .inr (5, [.int 0, .ref A_t_s, .ref A_t_aside, .ref A_t_snapshot, .int V_t_isKept, .ref A_t_saved, .int v1, .ref A_t_text, .int V_t_length, .ref A_t_counts, .ref A_t_isCut, .ref A_t_strength, .ref A_t_fails, .ref A_t_why, .ref A_t_driver, .ref A_t_place, .ref A_t_isDone, .int V_t_position, .int V_t_isWrong, .long V_t_digested])), (A_t_s, .inl (cI, 77, .inl V_t_s)), (A_t_saved, .inl (cI, 462, .inl f2))] H := hP
  replace hD : va_D A [(A_t_isCut, .inl (cZ, 9, .inl V_t_isCut)), (A_t_counts, .inl (cZ, 9, .inl V_t_counts)), (A_t_strength, .inl (cI, 9, .inl V_t_strength)), (A_t_fails, .inl (cZ, 9, .inl V_t_fails)), (A_t_driver, .inl (cI, 9, .inl V_t_driver)), (A_t_why, .inl (cI, 9, .inl V_t_why)), (A_t_isDone, .inl (cZ, 9, .inl V_t_isDone)), (A_t_place, .inl (cI, 9, .inl V_t_place)), (A_t, .inr (5, [.int 0, .ref A_t_s, .ref A_t_aside, .ref A_t_snapshot, .int V_t_isKept, .ref A_t_saved, .int v1, .ref A_t_text, .int V_t_length, .ref A_t_counts, .ref A_t_isCut, .ref A_t_strength, .ref A_t_fails, .ref A_t_why, .ref A_t_driver, .ref A_t_place, .ref A_t_isDone, .int V_t_position, .int V_t_isWrong, .long V_t_digested])), (A_t_s, .inl (cI, 77, .inl V_t_s)), (A_t_saved, .inl (cI, 462, .inl f2))] := hD
  refine lv_aload_n hx hb dX5_open_9 rfl (lv_at hl 0 rfl) ?_
  obtain ⟨v12, f3, f4, f5, f6, f7, f8, f9, f10, f11, hq, hg⟩ := b10_ex hg
  refine callWV (As := []) (rest := []) (wr := [(A_t_saved, .inl (cI, 462, .inl f2))]) S hK hP hD hS hA (c_X5_opens l D cI cZ cB cJ A_t A_t_s A_t_aside A_t_snapshot A_t_saved A_t_text A_t_counts A_t_isCut A_t_strength A_t_fails A_t_why A_t_driver A_t_place A_t_isDone _ 0 V_t_isKept v1 V_t_length V_t_position V_t_isWrong V_t_digested V_t_s V_t_isCut V_t_counts V_t_strength V_t_fails V_t_driver V_t_why V_t_isDone V_t_place v12 f3 f4 f5 f6 f7 f8 f9 f10 f11 hq) [8, 9, 0, 1, 2, 3, 4, 5, 6, 7] [10] rfl rfl (by decide +kernel) (by decide +kernel) (by decide +kernel) (cwV 0 hts gX5_open_X5_opens rfl rfl rfl hd_X5_opens ⟨Nat.le_of_ble_eq_true rfl, Nat.le_of_ble_eq_true rfl⟩) rfl rfl rfl hl.1 rfl (Nat.le_of_ble_eq_true rfl) dX5_open_10 ⟨Nat.zero_le _, Nat.zero_le _⟩ (fun H locs hP hD hS => ?_)
  replace hP : va_P D vwCl [(A_t_saved, .inl (cI, 462, .inl f2)), (A_t, .inr (5, [.int 0, .ref A_t_s, .ref A_t_aside, .ref A_t_snapshot, .int V_t_isKept, .ref A_t_saved, .int v1, .ref A_t_text, .int V_t_length, .ref A_t_counts, .ref A_t_isCut, .ref A_t_strength, .ref A_t_fails, .ref A_t_why, .ref A_t_driver, .ref A_t_place, .ref A_t_isDone, .int V_t_position, .int V_t_isWrong, .long V_t_digested])), (A_t_s, .inl (cI, 77, .inl f3)), (A_t_isCut, .inl (cZ, 9, .inl f4)), (A_t_counts, .inl (cZ, 9, .inl f5)), (A_t_strength, .inl (cI, 9, .inl f6)), (A_t_fails, .inl (cZ, 9, .inl f7)), (A_t_driver, .inl (cI, 9, .inl f8)), (A_t_why, .inl (cI, 9, .inl f9)), (A_t_isDone, .inl (cZ, 9, .inl f10)), (A_t_place, .inl (cI, 9, .inl f11))] H := hP
  replace hD : va_D A [(A_t_saved, .inl (cI, 462, .inl f2)), (A_t, .inr (5, [.int 0, .ref A_t_s, .ref A_t_aside, .ref A_t_snapshot, .int V_t_isKept, .ref A_t_saved, .int v1, .ref A_t_text, .int V_t_length, .ref A_t_counts, .ref A_t_isCut, .ref A_t_strength, .ref A_t_fails, .ref A_t_why, .ref A_t_driver, .ref A_t_place, .ref A_t_isDone, .int V_t_position, .int V_t_isWrong, .long V_t_digested])), (A_t_s, .inl (cI, 77, .inl f3)), (A_t_isCut, .inl (cZ, 9, .inl f4)), (A_t_counts, .inl (cZ, 9, .inl f5)), (A_t_strength, .inl (cI, 9, .inl f6)), (A_t_fails, .inl (cZ, 9, .inl f7)), (A_t_driver, .inl (cI, 9, .inl f8)), (A_t_why, .inl (cI, 9, .inl f9)), (A_t_isDone, .inl (cZ, 9, .inl f10)), (A_t_place, .inl (cI, 9, .inl f11))] := hD
  refine lv_istore_n (lv' := [(1, .int v12), (0, .ref A_t)]) hx hb dX5_open_13 rfl hl (by decide) rfl (fun ls hl => ?_)
  refine lv_aload_n hx hb dX5_open_14 rfl (lv_at hl 1 rfl) ?_
  refine xget (ci := 5) (C := RX5) (T := TX5) (N := 20) (v := .ref A_t_s) hx hb hts in_X5_open_X5 hown hK hP 1 rfl rfl 1 (by decide) wd_X5_open_2 rfl dX5_open_15 ?_
  refine lv_iconst (v := 1) hx hb dX5_open_18 (by decide) ?_
  obtain ⟨v13, hin, hv, hg⟩ := rdA_ex hg
  refine xiald hx hb hK hP 2 rfl hin hv dX5_open_19 ?_
  refine lv_iconst (v := 1) hx hb dX5_open_20 (by decide) ?_
  have hJ1 : ∀ (f15 : Nat → Int32), ∀ (H : Heap) (locs : List Loc), va_P D vwCl [(A_t_saved, .inl (cI, 462, .inl f2)), (A_t, .inr (5, [.int 0, .ref A_t_s, .ref A_t_aside, .ref A_t_snapshot, .int V_t_isKept, .ref A_t_saved, .int v1, .ref A_t_text, .int V_t_length, .ref A_t_counts, .ref A_t_isCut, .ref A_t_strength, .ref A_t_fails, .ref A_t_why, .ref A_t_driver, .ref A_t_place, .ref A_t_isDone, .int V_t_position, .int V_t_isWrong, .long V_t_digested])), (A_t_s, .inl (cI, 77, .inl f15)), (A_t_isCut, .inl (cZ, 9, .inl f4)), (A_t_counts, .inl (cZ, 9, .inl f5)), (A_t_strength, .inl (cI, 9, .inl f6)), (A_t_fails, .inl (cZ, 9, .inl f7)), (A_t_driver, .inl (cI, 9, .inl f8)), (A_t_why, .inl (cI, 9, .inl f9)), (A_t_isDone, .inl (cZ, 9, .inl f10)), (A_t_place, .inl (cI, 9, .inl f11))] H → va_D A [(A_t_saved, .inl (cI, 462, .inl f2)), (A_t, .inr (5, [.int 0, .ref A_t_s, .ref A_t_aside, .ref A_t_snapshot, .int V_t_isKept, .ref A_t_saved, .int v1, .ref A_t_text, .int V_t_length, .ref A_t_counts, .ref A_t_isCut, .ref A_t_strength, .ref A_t_fails, .ref A_t_why, .ref A_t_driver, .ref A_t_place, .ref A_t_isDone, .int V_t_position, .int V_t_isWrong, .long V_t_digested])), (A_t_s, .inl (cI, 77, .inl f15)), (A_t_isCut, .inl (cZ, 9, .inl f4)), (A_t_counts, .inl (cZ, 9, .inl f5)), (A_t_strength, .inl (cI, 9, .inl f6)), (A_t_fails, .inl (cZ, 9, .inl f7)), (A_t_driver, .inl (cI, 9, .inl f8)), (A_t_why, .inl (cI, 9, .inl f9)), (A_t_isDone, .inl (cZ, 9, .inl f10)), (A_t_place, .inl (cI, 9, .inl f11))] → va_S A s.heap H locs → ∀ ls : Array Slot, lv_has ls 2 [(1, .int v12), (0, .ref A_t)] → g_X5_open_J1 v12 v1 f2 f4 f5 f6 f7 f8 f9 f10 f11 f15 = some (r0, w1, w2, w3, w4, w5, w6, w7, w8, w9, w10, w11, w12) → W p l e rX5_open s m args below meth c H locs 0 0 Q (F0 m 28 ls []) := by
    intro f15 H locs hP hD hS ls hl hg
    unfold g_X5_open_J1 at hg
    refine lv_aload_n hx hb dX5_open_28 rfl (lv_at hl 1 rfl) ?_
    refine xget (ci := 5) (C := RX5) (T := TX5) (N := 20) (v := .ref A_t_s) hx hb hts in_X5_open_X5 hown hK hP 1 rfl rfl 1 (by decide) wd_X5_open_2 rfl dX5_open_29 ?_
    refine lv_iconst (v := 1) hx hb dX5_open_32 (by decide) ?_
    refine lv_iconst (v := 1) hx hb dX5_open_33 (by decide) ?_
    refine lv_aload_n hx hb dX5_open_34 rfl (lv_at hl 1 rfl) ?_
    refine xget (ci := 5) (C := RX5) (T := TX5) (N := 20) (v := .ref A_t_s) hx hb hts in_X5_open_X5 hown hK hP 1 rfl rfl 1 (by decide) wd_X5_open_2 rfl dX5_open_35 ?_
    refine lv_iconst (v := 1) hx hb dX5_open_38 (by decide) ?_
    obtain ⟨v16, hin, hv, hg⟩ := rdA_ex hg
    refine xiald hx hb hK hP 2 rfl hin hv dX5_open_39 ?_
    refine lv_isub hx hb dX5_open_40 ?_
    obtain ⟨f17, hin, hv, hg⟩ := wrA_ex hg
    refine xiast (ws2 := [(A_t_saved, .inl (cI, 462, .inl f2)), (A_t, .inr (5, [.int 0, .ref A_t_s, .ref A_t_aside, .ref A_t_snapshot, .int V_t_isKept, .ref A_t_saved, .int v1, .ref A_t_text, .int V_t_length, .ref A_t_counts, .ref A_t_isCut, .ref A_t_strength, .ref A_t_fails, .ref A_t_why, .ref A_t_driver, .ref A_t_place, .ref A_t_isDone, .int V_t_position, .int V_t_isWrong, .long V_t_digested])), (A_t_s, .inl (cI, 77, .inl f17)), (A_t_isCut, .inl (cZ, 9, .inl f4)), (A_t_counts, .inl (cZ, 9, .inl f5)), (A_t_strength, .inl (cI, 9, .inl f6)), (A_t_fails, .inl (cZ, 9, .inl f7)), (A_t_driver, .inl (cI, 9, .inl f8)), (A_t_why, .inl (cI, 9, .inl f9)), (A_t_isDone, .inl (cZ, 9, .inl f10)), (A_t_place, .inl (cI, 9, .inl f11))]) hx hb hK hP hD hS 2 rfl hin hv rfl dX5_open_41 (fun H locs hP hD hS => ?_)
    refine lv_iload_n hx hb dX5_open_42 rfl (lv_at hl 0 rfl) ?_
    cases hg
    exact fin _ _ _ _ dX5_open_43 (hP.sub [1, 2, 0, 3, 4, 5, 6, 7, 8, 9, 10] rfl) (hD.sub [1, 2, 0, 3, 4, 5, 6, 7, 8, 9, 10] (by decide) rfl) hS
  refine lv_icmp_ne (tgt := 28) hx hb dX5_open_21 (by decide) (fun hc => ?_) (fun hc => ?_)
  · replace hg := if_no hg hc
    exact hJ1 _ _ _ hP hD hS _ (lv_sub hl [0, 1] rfl) hg
  · replace hg := if_yes hg hc
    refine lv_aload_n hx hb dX5_open_24 rfl (lv_at hl 1 rfl) ?_
    obtain ⟨f14, hq, hg⟩ := bind_ex hg
    refine callWVv (As := []) (rest := []) (wr := [(A_t_saved, .inl (cI, 462, .inl f2)), (A_t_isCut, .inl (cZ, 9, .inl f4)), (A_t_counts, .inl (cZ, 9, .inl f5)), (A_t_strength, .inl (cI, 9, .inl f6)), (A_t_fails, .inl (cZ, 9, .inl f7)), (A_t_driver, .inl (cI, 9, .inl f8)), (A_t_why, .inl (cI, 9, .inl f9)), (A_t_isDone, .inl (cZ, 9, .inl f10)), (A_t_place, .inl (cI, 9, .inl f11))]) S hK hP hD hS hA (c_X5_endsYear l D cI cZ cB cJ A_t A_t_s A_t_aside A_t_snapshot A_t_saved A_t_text A_t_counts A_t_isCut A_t_strength A_t_fails A_t_why A_t_driver A_t_place A_t_isDone _ 0 V_t_isKept v1 V_t_length V_t_position V_t_isWrong V_t_digested f3 f14 hq) [1, 2] [0, 3, 4, 5, 6, 7, 8, 9, 10] rfl rfl (by decide +kernel) (by decide +kernel) (by decide +kernel) (cwV 0 hts gX5_open_X5_endsYear rfl rfl rfl hd_X5_endsYear ⟨Nat.le_of_ble_eq_true rfl, Nat.le_of_ble_eq_true rfl⟩) rfl rfl rfl hl.1 rfl (Nat.le_of_ble_eq_true rfl) dX5_open_25 ⟨Nat.zero_le _, Nat.zero_le _⟩ (fun H locs hP hD hS => ?_)
    replace hP : va_P D vwCl [(A_t_saved, .inl (cI, 462, .inl f2)), (A_t_isCut, .inl (cZ, 9, .inl f4)), (A_t_counts, .inl (cZ, 9, .inl f5)), (A_t_strength, .inl (cI, 9, .inl f6)), (A_t_fails, .inl (cZ, 9, .inl f7)), (A_t_driver, .inl (cI, 9, .inl f8)), (A_t_why, .inl (cI, 9, .inl f9)), (A_t_isDone, .inl (cZ, 9, .inl f10)), (A_t_place, .inl (cI, 9, .inl f11)), (A_t, .inr (5, [.int 0, .ref A_t_s, .ref A_t_aside, .ref A_t_snapshot, .int V_t_isKept, .ref A_t_saved, .int v1, .ref A_t_text, .int V_t_length, .ref A_t_counts, .ref A_t_isCut, .ref A_t_strength, .ref A_t_fails, .ref A_t_why, .ref A_t_driver, .ref A_t_place, .ref A_t_isDone, .int V_t_position, .int V_t_isWrong, .long V_t_digested])), (A_t_s, .inl (cI, 77, .inl f14))] H := hP
    replace hD : va_D A [(A_t_saved, .inl (cI, 462, .inl f2)), (A_t_isCut, .inl (cZ, 9, .inl f4)), (A_t_counts, .inl (cZ, 9, .inl f5)), (A_t_strength, .inl (cI, 9, .inl f6)), (A_t_fails, .inl (cZ, 9, .inl f7)), (A_t_driver, .inl (cI, 9, .inl f8)), (A_t_why, .inl (cI, 9, .inl f9)), (A_t_isDone, .inl (cZ, 9, .inl f10)), (A_t_place, .inl (cI, 9, .inl f11)), (A_t, .inr (5, [.int 0, .ref A_t_s, .ref A_t_aside, .ref A_t_snapshot, .int V_t_isKept, .ref A_t_saved, .int v1, .ref A_t_text, .int V_t_length, .ref A_t_counts, .ref A_t_isCut, .ref A_t_strength, .ref A_t_fails, .ref A_t_why, .ref A_t_driver, .ref A_t_place, .ref A_t_isDone, .int V_t_position, .int V_t_isWrong, .long V_t_digested])), (A_t_s, .inl (cI, 77, .inl f14))] := hD
    exact hJ1 _ _ _ (hP.sub [0, 9, 10, 1, 2, 3, 4, 5, 6, 7, 8] rfl) (hD.sub [0, 9, 10, 1, 2, 3, 4, 5, 6, 7, 8] (by decide) rfl) hS _ (lv_sub hl [0, 1] rfl) hg
theorem hd_X5_append : yX5_append.cls = RX5 ∧ yX5_append.cls ≠ "java/lang/invoke/MethodHandle" ∧ yX5_append.cls ≠ "java/lang/invoke/VarHandle" ∧ (parseMethodDescriptor yX5_append.desc).map (fun d => d.parameters.length) = some 1 := by decide +kernel
theorem in_X5_append_X5 : ∀ w ∈ u_ws RX5 TX5 20, w ∈ wsX5_append := fun _ h => List.mem_cons_of_mem _ (List.mem_append_right _ h)
theorem wd_X5_append_2 : Cond.fieldLink RX5 22 "FogOrdersModel" "text" "[I" ∈ wsX5_append := List.mem_of_getElem? (i := 2) rfl
theorem wd_X5_append_1 : Cond.fieldLink RX5 169 "FogOrdersModel" "length" "I" ∈ wsX5_append := List.mem_of_getElem? (i := 1) rfl
abbrev rX5_append : Room := { frames := 1, cells := 0, slots := 0, locals := 22 }
set_option maxHeartbeats 4000000 in
set_option maxRecDepth 100000 in
theorem c_X5_append (l : Launch) (D : va_G) (cI cZ cB cJ : ClassId) (A_t : Nat) (A_t_s : Nat) (A_t_aside : Nat) (A_t_snapshot : Nat) (A_t_saved : Nat) (A_t_text : Nat) (A_t_counts : Nat) (A_t_isCut : Nat) (A_t_strength : Nat) (A_t_fails : Nat) (A_t_why : Nat) (A_t_driver : Nat) (A_t_place : Nat) (A_t_isDone : Nat) (sz : Nat) (V_t_thrown : Int32) (V_t_isKept : Int32) (V_t_savedMany : Int32) (V_t_length : Int32) (V_t_position : Int32) (V_t_isWrong : Int32) (V_t_digested : Int64) (V_t_text : Nat → Int32) (x1 : Int32) (r0 : Int32) (w1 : Int32) (w2 : Int32) (w3 : Nat → Int32) (hg : g_X5_append V_t_thrown V_t_length V_t_text x1 = some (r0, w1, w2, w3)) : Met l yX5_append wsX5_append rX5_append (PcW D cI cZ cB cJ sz [(A_t, .inr (5, [.int V_t_thrown, .ref A_t_s, .ref A_t_aside, .ref A_t_snapshot, .int V_t_isKept, .ref A_t_saved, .int V_t_savedMany, .ref A_t_text, .int V_t_length, .ref A_t_counts, .ref A_t_isCut, .ref A_t_strength, .ref A_t_fails, .ref A_t_why, .ref A_t_driver, .ref A_t_place, .ref A_t_isDone, .int V_t_position, .int V_t_isWrong, .long V_t_digested])), (A_t_text, .inl (cI, 60, .inl V_t_text))] [.ref A_t, .int x1]) (QWi D cI cZ cB cJ sz [(A_t, .inr (5, [.int V_t_thrown, .ref A_t_s, .ref A_t_aside, .ref A_t_snapshot, .int V_t_isKept, .ref A_t_saved, .int V_t_savedMany, .ref A_t_text, .int V_t_length, .ref A_t_counts, .ref A_t_isCut, .ref A_t_strength, .ref A_t_fails, .ref A_t_why, .ref A_t_driver, .ref A_t_place, .ref A_t_isDone, .int V_t_position, .int V_t_isWrong, .long V_t_digested])), (A_t_text, .inl (cI, 60, .inl V_t_text))] [(A_t, .inr (5, [.int w1, .ref A_t_s, .ref A_t_aside, .ref A_t_snapshot, .int V_t_isKept, .ref A_t_saved, .int V_t_savedMany, .ref A_t_text, .int w2, .ref A_t_counts, .ref A_t_isCut, .ref A_t_strength, .ref A_t_fails, .ref A_t_why, .ref A_t_driver, .ref A_t_place, .ref A_t_isDone, .int V_t_position, .int V_t_isWrong, .long V_t_digested])), (A_t_text, .inl (cI, 60, .inl w3))] r0) 0 0 (va_A [(A_t, .inr (5, [.int V_t_thrown, .ref A_t_s, .ref A_t_aside, .ref A_t_snapshot, .int V_t_isKept, .ref A_t_saved, .int V_t_savedMany, .ref A_t_text, .int V_t_length, .ref A_t_counts, .ref A_t_isCut, .ref A_t_strength, .ref A_t_fails, .ref A_t_why, .ref A_t_driver, .ref A_t_place, .ref A_t_isDone, .int V_t_position, .int V_t_isWrong, .long V_t_digested])), (A_t_text, .inl (cI, 60, .inl V_t_text))] sz) := by
  refine bodyWi (cc := cX5_append) (maxL := 2) (lv := [(0, .ref A_t), (1, .int x1)]) (by decide) rfl (Nat.le_of_ble_eq_true rfl) rfl ?_
  intro p e s m args below meth c Q hx hb hml hown hts A hP hK hD hA hS fin ls hl
  replace hown : s.vm.findClass RX5 = some m.cls := hown
  have S : CallFix p m c cX5_append 2 s args wsX5_append RX5 := ⟨hx, hb, hml, hown, hts⟩
  unfold g_X5_append at hg
  refine lv_aload_n hx hb dX5_append_0 rfl (lv_at hl 0 rfl) ?_
  refine lv_iload_n hx hb dX5_append_1 rfl (lv_at hl 1 rfl) ?_
  refine lv_bipush (v := 33) hx hb dX5_append_2 (by decide) ?_
  refine lv_bipush (v := 126) hx hb dX5_append_4 (by decide) ?_
  obtain ⟨v1, hq, hg⟩ := bind_ex hg
  refine callRSz (As := [.int x1, .int 33, .int 126]) (rest := [.ref A_t]) S hK hP (c_X5_in l D cI cZ cB cJ x1 33 126 v1 hq) [] rfl (va_cwS 3 hts gX5_append_X5_in rfl rfl rfl hd_X5_in ⟨Nat.le_of_ble_eq_true rfl, Nat.le_of_ble_eq_true rfl⟩) rfl hl.1 rfl (Nat.le_of_ble_eq_true rfl) dX5_append_6 ⟨Nat.zero_le _, Nat.zero_le _⟩ (fun hz_v1 => ?_)
  have hJ1 : ∀ (v2 : Int32), ∀ (H : Heap) (locs : List Loc), va_P D vwCl [(A_t, .inr (5, [.int V_t_thrown, .ref A_t_s, .ref A_t_aside, .ref A_t_snapshot, .int V_t_isKept, .ref A_t_saved, .int V_t_savedMany, .ref A_t_text, .int V_t_length, .ref A_t_counts, .ref A_t_isCut, .ref A_t_strength, .ref A_t_fails, .ref A_t_why, .ref A_t_driver, .ref A_t_place, .ref A_t_isDone, .int V_t_position, .int V_t_isWrong, .long V_t_digested])), (A_t_text, .inl (cI, 60, .inl V_t_text))] H → va_D A [(A_t, .inr (5, [.int V_t_thrown, .ref A_t_s, .ref A_t_aside, .ref A_t_snapshot, .int V_t_isKept, .ref A_t_saved, .int V_t_savedMany, .ref A_t_text, .int V_t_length, .ref A_t_counts, .ref A_t_isCut, .ref A_t_strength, .ref A_t_fails, .ref A_t_why, .ref A_t_driver, .ref A_t_place, .ref A_t_isDone, .int V_t_position, .int V_t_isWrong, .long V_t_digested])), (A_t_text, .inl (cI, 60, .inl V_t_text))] → va_S A s.heap H locs → ∀ ls : Array Slot, lv_has ls 2 [(0, .ref A_t), (1, .int x1)] → g_X5_append_J1 V_t_thrown V_t_length V_t_text x1 v2 = some (r0, w1, w2, w3) → W p l e rX5_append s m args below meth c H locs 0 0 Q (F0 m 30 ls [.int v2, .ref A_t]) := by
    intro v2 H locs hP hD hS ls hl hg
    unfold g_X5_append_J1 at hg
    obtain ⟨v4, v3, hq, hg⟩ := b2_ex hg
    refine callWVz (As := [.int v2]) (rest := []) (wr := [(A_t_text, .inl (cI, 60, .inl V_t_text))]) S hK hP hD hS hA (c_X5_holds l D cI cZ cB cJ A_t A_t_s A_t_aside A_t_snapshot A_t_saved A_t_text A_t_counts A_t_isCut A_t_strength A_t_fails A_t_why A_t_driver A_t_place A_t_isDone _ V_t_thrown V_t_isKept V_t_savedMany V_t_length V_t_position V_t_isWrong V_t_digested v2 v4 v3 hq) [0] [1] rfl rfl (by decide +kernel) (by decide +kernel) (by decide +kernel) (cwV 1 hts gX5_append_X5_holds rfl rfl rfl hd_X5_holds ⟨Nat.le_of_ble_eq_true rfl, Nat.le_of_ble_eq_true rfl⟩) rfl rfl rfl hl.1 rfl (Nat.le_of_ble_eq_true rfl) dX5_append_30 ⟨Nat.zero_le _, Nat.zero_le _⟩ (fun hz_v4 H locs hP hD hS => ?_)
    replace hP : va_P D vwCl [(A_t_text, .inl (cI, 60, .inl V_t_text)), (A_t, .inr (5, [.int v3, .ref A_t_s, .ref A_t_aside, .ref A_t_snapshot, .int V_t_isKept, .ref A_t_saved, .int V_t_savedMany, .ref A_t_text, .int V_t_length, .ref A_t_counts, .ref A_t_isCut, .ref A_t_strength, .ref A_t_fails, .ref A_t_why, .ref A_t_driver, .ref A_t_place, .ref A_t_isDone, .int V_t_position, .int V_t_isWrong, .long V_t_digested]))] H := hP
    replace hD : va_D A [(A_t_text, .inl (cI, 60, .inl V_t_text)), (A_t, .inr (5, [.int v3, .ref A_t_s, .ref A_t_aside, .ref A_t_snapshot, .int V_t_isKept, .ref A_t_saved, .int V_t_savedMany, .ref A_t_text, .int V_t_length, .ref A_t_counts, .ref A_t_isCut, .ref A_t_strength, .ref A_t_fails, .ref A_t_why, .ref A_t_driver, .ref A_t_place, .ref A_t_isDone, .int V_t_position, .int V_t_isWrong, .long V_t_digested]))] := hD
    refine lv_if_ne (tgt := 38) hx hb dX5_append_33 (by decide) (fun hc => ?_) (fun hc => ?_)
    · replace hg := if_no hg hc
      refine lv_aload_n hx hb dX5_append_38 rfl (lv_at hl 0 rfl) ?_
      refine xget (ci := 5) (C := RX5) (T := TX5) (N := 20) (v := .ref A_t_text) hx hb hts in_X5_append_X5 hown hK hP 1 rfl rfl 7 (by decide) wd_X5_append_2 rfl dX5_append_39 ?_
      refine lv_aload_n hx hb dX5_append_42 rfl (lv_at hl 0 rfl) ?_
      refine xget (ci := 5) (C := RX5) (T := TX5) (N := 20) (v := .int V_t_length) hx hb hts in_X5_append_X5 hown hK hP 1 rfl rfl 8 (by decide) wd_X5_append_1 rfl dX5_append_43 ?_
      refine lv_iload_n hx hb dX5_append_46 rfl (lv_at hl 1 rfl) ?_
      obtain ⟨f5, hin, hv, hg⟩ := wrA_ex hg
      refine xiast (ws2 := [(A_t_text, .inl (cI, 60, .inl f5)), (A_t, .inr (5, [.int v3, .ref A_t_s, .ref A_t_aside, .ref A_t_snapshot, .int V_t_isKept, .ref A_t_saved, .int V_t_savedMany, .ref A_t_text, .int V_t_length, .ref A_t_counts, .ref A_t_isCut, .ref A_t_strength, .ref A_t_fails, .ref A_t_why, .ref A_t_driver, .ref A_t_place, .ref A_t_isDone, .int V_t_position, .int V_t_isWrong, .long V_t_digested]))]) hx hb hK hP hD hS 0 rfl hin hv rfl dX5_append_47 (fun H locs hP hD hS => ?_)
      refine lv_aload_n hx hb dX5_append_48 rfl (lv_at hl 0 rfl) ?_
      refine lv_dup hx hb dX5_append_49 rfl ?_
      refine xget (ci := 5) (C := RX5) (T := TX5) (N := 20) (v := .int V_t_length) hx hb hts in_X5_append_X5 hown hK hP 1 rfl rfl 8 (by decide) wd_X5_append_1 rfl dX5_append_50 ?_
      refine lv_iconst (v := 1) hx hb dX5_append_53 (by decide) ?_
      refine lv_iadd hx hb dX5_append_54 ?_
      refine xput (ci := 5) (C := RX5) (T := TX5) (N := 20) (ty := .int) (v := .int (V_t_length + 1)) (ws2 := [(A_t_text, .inl (cI, 60, .inl f5)), (A_t, .inr (5, [.int v3, .ref A_t_s, .ref A_t_aside, .ref A_t_snapshot, .int V_t_isKept, .ref A_t_saved, .int V_t_savedMany, .ref A_t_text, .int (V_t_length + 1), .ref A_t_counts, .ref A_t_isCut, .ref A_t_strength, .ref A_t_fails, .ref A_t_why, .ref A_t_driver, .ref A_t_place, .ref A_t_isDone, .int V_t_position, .int V_t_isWrong, .long V_t_digested]))]) hx hb hts in_X5_append_X5 tyX5 tyX5_ok nmX5 hown hK hP hD hS 1 rfl rfl 8 (by decide) wd_X5_append_1 rfl (by decide +kernel) rfl rfl (Nat.le_of_ble_eq_true rfl) rfl dX5_append_55 (fun H locs hP hD hS => ?_)
      refine lv_aload_n hx hb dX5_append_58 rfl (lv_at hl 0 rfl) ?_
      refine xget (ci := 5) (C := RX5) (T := TX5) (N := 20) (v := .int (V_t_length + 1)) hx hb hts in_X5_append_X5 hown hK hP 1 rfl rfl 8 (by decide) wd_X5_append_1 rfl dX5_append_59 ?_
      cases hg
      exact fin _ _ _ _ dX5_append_62 (hP.sub [1, 0] rfl) (hD.sub [1, 0] (by decide) rfl) hS
    · replace hg := if_yes hg hc
      refine lv_iconst (v := 0) hx hb dX5_append_36 (by decide) ?_
      cases hg
      exact fin _ _ _ _ dX5_append_37 (hP.sub [1, 0] rfl) (hD.sub [1, 0] (by decide) rfl) hS
  refine lv_if_ne (tgt := 16) hx hb dX5_append_9 (by decide) (fun hc => ?_) (fun hc => ?_)
  · replace hg := if_no hg hc
    refine lv_aload_n hx hb dX5_append_16 rfl (lv_at hl 0 rfl) ?_
    refine xget (ci := 5) (C := RX5) (T := TX5) (N := 20) (v := .int V_t_length) hx hb hts in_X5_append_X5 hown hK hP 0 rfl rfl 8 (by decide) wd_X5_append_1 rfl dX5_append_17 ?_
    refine lv_bipush (v := 60) hx hb dX5_append_20 (by decide) ?_
    refine lv_icmp_ne (tgt := 29) hx hb dX5_append_22 (by decide) (fun hc => ?_) (fun hc => ?_)
    · replace hg := if_no hg hc
      refine lv_iconst (v := 0) hx hb dX5_append_29 (by decide) ?_
      exact hJ1 _ _ _ hP hD hS _ (lv_sub hl [0, 1] rfl) hg
    · replace hg := if_yes hg hc
      refine lv_iconst (v := 2) hx hb dX5_append_25 (by decide) ?_
      refine lv_goto (tgt := 30) hx hb dX5_append_26 (by decide) ?_
      exact hJ1 _ _ _ hP hD hS _ (lv_sub hl [0, 1] rfl) hg
  · replace hg := if_yes hg hc
    refine lv_iconst (v := 1) hx hb dX5_append_12 (by decide) ?_
    refine lv_goto (tgt := 30) hx hb dX5_append_13 (by decide) ?_
    exact hJ1 _ _ _ hP hD hS _ (lv_sub hl [0, 1] rfl) hg
theorem hd_X5_clearBuffer : yX5_clearBuffer.cls = RX5 ∧ yX5_clearBuffer.cls ≠ "java/lang/invoke/MethodHandle" ∧ yX5_clearBuffer.cls ≠ "java/lang/invoke/VarHandle" ∧ (parseMethodDescriptor yX5_clearBuffer.desc).map (fun d => d.parameters.length) = some 0 := by decide +kernel
theorem in_X5_clearBuffer_X5 : ∀ w ∈ u_ws RX5 TX5 20, w ∈ wsX5_clearBuffer := fun _ h => List.mem_cons_of_mem _ (List.mem_append_right _ h)
theorem wd_X5_clearBuffer_1 : Cond.fieldLink RX5 50 "FogOrdersModel" "thrown" "I" ∈ wsX5_clearBuffer := List.mem_of_getElem? (i := 1) rfl
theorem wd_X5_clearBuffer_2 : Cond.fieldLink RX5 169 "FogOrdersModel" "length" "I" ∈ wsX5_clearBuffer := List.mem_of_getElem? (i := 2) rfl
abbrev rX5_clearBuffer : Room := { frames := 0, cells := 0, slots := 0, locals := 0 }
set_option maxHeartbeats 4000000 in
set_option maxRecDepth 100000 in
theorem c_X5_clearBuffer (l : Launch) (D : va_G) (cI cZ cB cJ : ClassId) (A_t : Nat) (A_t_s : Nat) (A_t_aside : Nat) (A_t_snapshot : Nat) (A_t_saved : Nat) (A_t_text : Nat) (A_t_counts : Nat) (A_t_isCut : Nat) (A_t_strength : Nat) (A_t_fails : Nat) (A_t_why : Nat) (A_t_driver : Nat) (A_t_place : Nat) (A_t_isDone : Nat) (sz : Nat) (V_t_thrown : Int32) (V_t_isKept : Int32) (V_t_savedMany : Int32) (V_t_length : Int32) (V_t_position : Int32) (V_t_isWrong : Int32) (V_t_digested : Int64) (r0 : Int32) (w1 : Int32) (w2 : Int32) (hg : g_X5_clearBuffer V_t_thrown V_t_length = some (r0, w1, w2)) : Met l yX5_clearBuffer wsX5_clearBuffer rX5_clearBuffer (PcW D cI cZ cB cJ sz [(A_t, .inr (5, [.int V_t_thrown, .ref A_t_s, .ref A_t_aside, .ref A_t_snapshot, .int V_t_isKept, .ref A_t_saved, .int V_t_savedMany, .ref A_t_text, .int V_t_length, .ref A_t_counts, .ref A_t_isCut, .ref A_t_strength, .ref A_t_fails, .ref A_t_why, .ref A_t_driver, .ref A_t_place, .ref A_t_isDone, .int V_t_position, .int V_t_isWrong, .long V_t_digested]))] [.ref A_t]) (QWi D cI cZ cB cJ sz [(A_t, .inr (5, [.int V_t_thrown, .ref A_t_s, .ref A_t_aside, .ref A_t_snapshot, .int V_t_isKept, .ref A_t_saved, .int V_t_savedMany, .ref A_t_text, .int V_t_length, .ref A_t_counts, .ref A_t_isCut, .ref A_t_strength, .ref A_t_fails, .ref A_t_why, .ref A_t_driver, .ref A_t_place, .ref A_t_isDone, .int V_t_position, .int V_t_isWrong, .long V_t_digested]))] [(A_t, .inr (5, [.int w1, .ref A_t_s, .ref A_t_aside, .ref A_t_snapshot, .int V_t_isKept, .ref A_t_saved, .int V_t_savedMany, .ref A_t_text, .int w2, .ref A_t_counts, .ref A_t_isCut, .ref A_t_strength, .ref A_t_fails, .ref A_t_why, .ref A_t_driver, .ref A_t_place, .ref A_t_isDone, .int V_t_position, .int V_t_isWrong, .long V_t_digested]))] r0) 0 0 (va_A [(A_t, .inr (5, [.int V_t_thrown, .ref A_t_s, .ref A_t_aside, .ref A_t_snapshot, .int V_t_isKept, .ref A_t_saved, .int V_t_savedMany, .ref A_t_text, .int V_t_length, .ref A_t_counts, .ref A_t_isCut, .ref A_t_strength, .ref A_t_fails, .ref A_t_why, .ref A_t_driver, .ref A_t_place, .ref A_t_isDone, .int V_t_position, .int V_t_isWrong, .long V_t_digested]))] sz) := by
  refine bodyWi (cc := cX5_clearBuffer) (maxL := 2) (lv := [(0, .ref A_t)]) (by decide) rfl (Nat.le_of_ble_eq_true rfl) rfl ?_
  intro p e s m args below meth c Q hx hb hml hown hts A hP hK hD hA hS fin ls hl
  replace hown : s.vm.findClass RX5 = some m.cls := hown
  have S : CallFix p m c cX5_clearBuffer 2 s args wsX5_clearBuffer RX5 := ⟨hx, hb, hml, hown, hts⟩
  unfold g_X5_clearBuffer at hg
  refine lv_aload_n hx hb dX5_clearBuffer_0 rfl (lv_at hl 0 rfl) ?_
  refine lv_iconst (v := 0) hx hb dX5_clearBuffer_1 (by decide) ?_
  refine xput (ci := 5) (C := RX5) (T := TX5) (N := 20) (ty := .int) (v := .int 0) (ws2 := [(A_t, .inr (5, [.int 0, .ref A_t_s, .ref A_t_aside, .ref A_t_snapshot, .int V_t_isKept, .ref A_t_saved, .int V_t_savedMany, .ref A_t_text, .int V_t_length, .ref A_t_counts, .ref A_t_isCut, .ref A_t_strength, .ref A_t_fails, .ref A_t_why, .ref A_t_driver, .ref A_t_place, .ref A_t_isDone, .int V_t_position, .int V_t_isWrong, .long V_t_digested]))]) hx hb hts in_X5_clearBuffer_X5 tyX5 tyX5_ok nmX5 hown hK hP hD hS 0 rfl rfl 0 (by decide) wd_X5_clearBuffer_1 rfl (by decide +kernel) rfl rfl (Nat.le_of_ble_eq_true rfl) rfl dX5_clearBuffer_2 (fun H locs hP hD hS => ?_)
  refine lv_aload_n hx hb dX5_clearBuffer_5 rfl (lv_at hl 0 rfl) ?_
  refine xget (ci := 5) (C := RX5) (T := TX5) (N := 20) (v := .int V_t_length) hx hb hts in_X5_clearBuffer_X5 hown hK hP 0 rfl rfl 8 (by decide) wd_X5_clearBuffer_2 rfl dX5_clearBuffer_6 ?_
  refine lv_istore_n (lv' := [(1, .int V_t_length), (0, .ref A_t)]) hx hb dX5_clearBuffer_9 rfl hl (by decide) rfl (fun ls hl => ?_)
  refine lv_aload_n hx hb dX5_clearBuffer_10 rfl (lv_at hl 1 rfl) ?_
  refine lv_iconst (v := 0) hx hb dX5_clearBuffer_11 (by decide) ?_
  refine xput (ci := 5) (C := RX5) (T := TX5) (N := 20) (ty := .int) (v := .int 0) (ws2 := [(A_t, .inr (5, [.int 0, .ref A_t_s, .ref A_t_aside, .ref A_t_snapshot, .int V_t_isKept, .ref A_t_saved, .int V_t_savedMany, .ref A_t_text, .int 0, .ref A_t_counts, .ref A_t_isCut, .ref A_t_strength, .ref A_t_fails, .ref A_t_why, .ref A_t_driver, .ref A_t_place, .ref A_t_isDone, .int V_t_position, .int V_t_isWrong, .long V_t_digested]))]) hx hb hts in_X5_clearBuffer_X5 tyX5 tyX5_ok nmX5 hown hK hP hD hS 0 rfl rfl 8 (by decide) wd_X5_clearBuffer_2 rfl (by decide +kernel) rfl rfl (Nat.le_of_ble_eq_true rfl) rfl dX5_clearBuffer_12 (fun H locs hP hD hS => ?_)
  refine lv_iload_n hx hb dX5_clearBuffer_15 rfl (lv_at hl 0 rfl) ?_
  cases hg
  exact fin _ _ _ _ dX5_clearBuffer_16 hP hD hS
theorem hd_X5_isNext : yX5_isNext.cls = RX5 ∧ yX5_isNext.cls ≠ "java/lang/invoke/MethodHandle" ∧ yX5_isNext.cls ≠ "java/lang/invoke/VarHandle" ∧ (parseMethodDescriptor yX5_isNext.desc).map (fun d => d.parameters.length) = some 2 := by decide +kernel
theorem in_X5_isNext_X5 : ∀ w ∈ u_ws RX5 TX5 20, w ∈ wsX5_isNext := fun _ h => List.mem_cons_of_mem _ (List.mem_append_right _ h)
theorem wd_X5_isNext_1 : Cond.fieldLink RX5 172 "FogOrdersModel" "isWrong" "Z" ∈ wsX5_isNext := List.mem_of_getElem? (i := 1) rfl
theorem wd_X5_isNext_2 : Cond.fieldLink RX5 176 "FogOrdersModel" "position" "I" ∈ wsX5_isNext := List.mem_of_getElem? (i := 2) rfl
theorem wd_X5_isNext_3 : Cond.fieldLink RX5 169 "FogOrdersModel" "length" "I" ∈ wsX5_isNext := List.mem_of_getElem? (i := 3) rfl
theorem wd_X5_isNext_4 : Cond.fieldLink RX5 22 "FogOrdersModel" "text" "[I" ∈ wsX5_isNext := List.mem_of_getElem? (i := 4) rfl
abbrev rX5_isNext : Room := { frames := 1, cells := 0, slots := 0, locals := 22 }
set_option maxHeartbeats 4000000 in
set_option maxRecDepth 100000 in
theorem c_X5_isNext (l : Launch) (D : va_G) (cI cZ cB cJ : ClassId) (A_t : Nat) (A_t_s : Nat) (A_t_aside : Nat) (A_t_snapshot : Nat) (A_t_saved : Nat) (A_t_text : Nat) (A_t_counts : Nat) (A_t_isCut : Nat) (A_t_strength : Nat) (A_t_fails : Nat) (A_t_why : Nat) (A_t_driver : Nat) (A_t_place : Nat) (A_t_isDone : Nat) (V_t_thrown : Int32) (V_t_isKept : Int32) (V_t_savedMany : Int32) (V_t_length : Int32) (V_t_position : Int32) (V_t_isWrong : Int32) (V_t_digested : Int64) (V_t_text : Nat → Int32) (x1 : Int32) (x2 : Int32) (r0 : Int32) (hg : g_X5_isNext V_t_length V_t_position V_t_isWrong V_t_text x1 x2 = some r0) : Met l yX5_isNext wsX5_isNext rX5_isNext (PcR D cI cZ cB cJ [(A_t, .inr (5, [.int V_t_thrown, .ref A_t_s, .ref A_t_aside, .ref A_t_snapshot, .int V_t_isKept, .ref A_t_saved, .int V_t_savedMany, .ref A_t_text, .int V_t_length, .ref A_t_counts, .ref A_t_isCut, .ref A_t_strength, .ref A_t_fails, .ref A_t_why, .ref A_t_driver, .ref A_t_place, .ref A_t_isDone, .int V_t_position, .int V_t_isWrong, .long V_t_digested])), (A_t_text, .inl (cI, 60, .inl V_t_text))] [.ref A_t, .int x1, .int x2]) (vp_Si (fun r' => r' = r0 ∧ bo r0)) 0 0 (fun _ => False) := by
  refine bodyRz (cc := cX5_isNext) (maxL := 3) (lv := [(0, .ref A_t), (1, .int x1), (2, .int x2)]) (by decide) rfl (Nat.le_of_ble_eq_true rfl) rfl ?_
  intro p e s m args below meth c Q hx hb hml hown hts hP hK fin ls hl
  replace hown : s.vm.findClass RX5 = some m.cls := hown
  have S : CallFix p m c cX5_isNext 3 s args wsX5_isNext RX5 := ⟨hx, hb, hml, hown, hts⟩
  unfold g_X5_isNext at hg
  refine lv_aload_n hx hb dX5_isNext_0 rfl (lv_at hl 0 rfl) ?_
  refine xget (ci := 5) (C := RX5) (T := TX5) (N := 20) (v := .int V_t_isWrong) hx hb hts in_X5_isNext_X5 hown hK hP 0 rfl rfl 18 (by decide) wd_X5_isNext_1 rfl dX5_isNext_1 ?_
  refine lv_if_ne (tgt := 39) hx hb dX5_isNext_4 (by decide) (fun hc => ?_) (fun hc => ?_)
  · replace hg := if_no hg hc
    refine lv_iconst (v := 0) hx hb dX5_isNext_39 (by decide) ?_
    cases hg
    exact fin _ _ bo_0 dX5_isNext_40
  · replace hg := if_yes hg hc
    refine lv_aload_n hx hb dX5_isNext_7 rfl (lv_at hl 0 rfl) ?_
    refine xget (ci := 5) (C := RX5) (T := TX5) (N := 20) (v := .int V_t_position) hx hb hts in_X5_isNext_X5 hown hK hP 0 rfl rfl 17 (by decide) wd_X5_isNext_2 rfl dX5_isNext_8 ?_
    refine lv_aload_n hx hb dX5_isNext_11 rfl (lv_at hl 0 rfl) ?_
    refine xget (ci := 5) (C := RX5) (T := TX5) (N := 20) (v := .int V_t_length) hx hb hts in_X5_isNext_X5 hown hK hP 0 rfl rfl 8 (by decide) wd_X5_isNext_3 rfl dX5_isNext_12 ?_
    refine lv_icmp_ge (tgt := 39) hx hb dX5_isNext_15 (by decide) (fun hc => ?_) (fun hc => ?_)
    · replace hg := if_yes hg hc
      refine lv_iconst (v := 0) hx hb dX5_isNext_39 (by decide) ?_
      cases hg
      exact fin _ _ bo_0 dX5_isNext_40
    · replace hg := if_no hg hc
      refine lv_aload_n hx hb dX5_isNext_18 rfl (lv_at hl 0 rfl) ?_
      refine xget (ci := 5) (C := RX5) (T := TX5) (N := 20) (v := .ref A_t_text) hx hb hts in_X5_isNext_X5 hown hK hP 0 rfl rfl 7 (by decide) wd_X5_isNext_4 rfl dX5_isNext_19 ?_
      refine lv_aload_n hx hb dX5_isNext_22 rfl (lv_at hl 0 rfl) ?_
      refine xget (ci := 5) (C := RX5) (T := TX5) (N := 20) (v := .int V_t_position) hx hb hts in_X5_isNext_X5 hown hK hP 0 rfl rfl 17 (by decide) wd_X5_isNext_2 rfl dX5_isNext_23 ?_
      obtain ⟨v1, hin, hv, hg⟩ := rdA_ex hg
      refine xiald hx hb hK hP 1 rfl hin hv dX5_isNext_26 ?_
      refine lv_iload_n hx hb dX5_isNext_27 rfl (lv_at hl 1 rfl) ?_
      refine lv_iload_n hx hb dX5_isNext_28 rfl (lv_at hl 2 rfl) ?_
      obtain ⟨v2, hq, hg⟩ := bind_ex hg
      refine callRSz (As := [.int v1, .int x1, .int x2]) (rest := []) S hK hP (c_X5_in l D cI cZ cB cJ v1 x1 x2 v2 hq) [] rfl (va_cwS 3 hts gX5_isNext_X5_in rfl rfl rfl hd_X5_in ⟨Nat.le_of_ble_eq_true rfl, Nat.le_of_ble_eq_true rfl⟩) rfl hl.1 rfl (Nat.le_of_ble_eq_true rfl) dX5_isNext_29 ⟨Nat.zero_le _, Nat.zero_le _⟩ (fun hz_v2 => ?_)
      refine lv_if_eq (tgt := 39) hx hb dX5_isNext_32 (by decide) (fun hc => ?_) (fun hc => ?_)
      · replace hg := if_yes hg hc
        refine lv_iconst (v := 0) hx hb dX5_isNext_39 (by decide) ?_
        cases hg
        exact fin _ _ bo_0 dX5_isNext_40
      · replace hg := if_no hg hc
        refine lv_iconst (v := 1) hx hb dX5_isNext_35 (by decide) ?_
        refine lv_goto (tgt := 40) hx hb dX5_isNext_36 (by decide) ?_
        cases hg
        exact fin _ _ bo_1 dX5_isNext_40
theorem hd_X5_takes : yX5_takes.cls = RX5 ∧ yX5_takes.cls ≠ "java/lang/invoke/MethodHandle" ∧ yX5_takes.cls ≠ "java/lang/invoke/VarHandle" ∧ (parseMethodDescriptor yX5_takes.desc).map (fun d => d.parameters.length) = some 2 := by decide +kernel
theorem in_X5_takes_X5 : ∀ w ∈ u_ws RX5 TX5 20, w ∈ wsX5_takes := fun _ h => List.mem_cons_of_mem _ (List.mem_append_right _ h)
theorem wd_X5_takes_1 : Cond.fieldLink RX5 176 "FogOrdersModel" "position" "I" ∈ wsX5_takes := List.mem_of_getElem? (i := 1) rfl
theorem wd_X5_takes_2 : Cond.fieldLink RX5 169 "FogOrdersModel" "length" "I" ∈ wsX5_takes := List.mem_of_getElem? (i := 2) rfl
theorem wd_X5_takes_4 : Cond.fieldLink RX5 172 "FogOrdersModel" "isWrong" "Z" ∈ wsX5_takes := List.mem_of_getElem? (i := 4) rfl
theorem wd_X5_takes_3 : Cond.fieldLink RX5 22 "FogOrdersModel" "text" "[I" ∈ wsX5_takes := List.mem_of_getElem? (i := 3) rfl
abbrev rX5_takes : Room := { frames := 1, cells := 0, slots := 0, locals := 22 }
set_option maxHeartbeats 4000000 in
set_option maxRecDepth 100000 in
theorem c_X5_takes (l : Launch) (D : va_G) (cI cZ cB cJ : ClassId) (A_t : Nat) (A_t_s : Nat) (A_t_aside : Nat) (A_t_snapshot : Nat) (A_t_saved : Nat) (A_t_text : Nat) (A_t_counts : Nat) (A_t_isCut : Nat) (A_t_strength : Nat) (A_t_fails : Nat) (A_t_why : Nat) (A_t_driver : Nat) (A_t_place : Nat) (A_t_isDone : Nat) (sz : Nat) (V_t_thrown : Int32) (V_t_isKept : Int32) (V_t_savedMany : Int32) (V_t_length : Int32) (V_t_position : Int32) (V_t_isWrong : Int32) (V_t_digested : Int64) (V_t_text : Nat → Int32) (x1 : Int32) (x2 : Int32) (r0 : Int32) (w1 : Int32) (w2 : Int32) (hg : g_X5_takes V_t_length V_t_position V_t_isWrong V_t_text x1 x2 = some (r0, w1, w2)) : Met l yX5_takes wsX5_takes rX5_takes (PcW D cI cZ cB cJ sz [(A_t, .inr (5, [.int V_t_thrown, .ref A_t_s, .ref A_t_aside, .ref A_t_snapshot, .int V_t_isKept, .ref A_t_saved, .int V_t_savedMany, .ref A_t_text, .int V_t_length, .ref A_t_counts, .ref A_t_isCut, .ref A_t_strength, .ref A_t_fails, .ref A_t_why, .ref A_t_driver, .ref A_t_place, .ref A_t_isDone, .int V_t_position, .int V_t_isWrong, .long V_t_digested])), (A_t_text, .inl (cI, 60, .inl V_t_text))] [.ref A_t, .int x1, .int x2]) (QWi D cI cZ cB cJ sz [(A_t, .inr (5, [.int V_t_thrown, .ref A_t_s, .ref A_t_aside, .ref A_t_snapshot, .int V_t_isKept, .ref A_t_saved, .int V_t_savedMany, .ref A_t_text, .int V_t_length, .ref A_t_counts, .ref A_t_isCut, .ref A_t_strength, .ref A_t_fails, .ref A_t_why, .ref A_t_driver, .ref A_t_place, .ref A_t_isDone, .int V_t_position, .int V_t_isWrong, .long V_t_digested])), (A_t_text, .inl (cI, 60, .inl V_t_text))] [(A_t, .inr (5, [.int V_t_thrown, .ref A_t_s, .ref A_t_aside, .ref A_t_snapshot, .int V_t_isKept, .ref A_t_saved, .int V_t_savedMany, .ref A_t_text, .int V_t_length, .ref A_t_counts, .ref A_t_isCut, .ref A_t_strength, .ref A_t_fails, .ref A_t_why, .ref A_t_driver, .ref A_t_place, .ref A_t_isDone, .int w1, .int w2, .long V_t_digested])), (A_t_text, .inl (cI, 60, .inl V_t_text))] r0) 0 0 (va_A [(A_t, .inr (5, [.int V_t_thrown, .ref A_t_s, .ref A_t_aside, .ref A_t_snapshot, .int V_t_isKept, .ref A_t_saved, .int V_t_savedMany, .ref A_t_text, .int V_t_length, .ref A_t_counts, .ref A_t_isCut, .ref A_t_strength, .ref A_t_fails, .ref A_t_why, .ref A_t_driver, .ref A_t_place, .ref A_t_isDone, .int V_t_position, .int V_t_isWrong, .long V_t_digested])), (A_t_text, .inl (cI, 60, .inl V_t_text))] sz) := by
  refine bodyWi (cc := cX5_takes) (maxL := 4) (lv := [(0, .ref A_t), (1, .int x1), (2, .int x2)]) (by decide) rfl (Nat.le_of_ble_eq_true rfl) rfl ?_
  intro p e s m args below meth c Q hx hb hml hown hts A hP hK hD hA hS fin ls hl
  replace hown : s.vm.findClass RX5 = some m.cls := hown
  have S : CallFix p m c cX5_takes 4 s args wsX5_takes RX5 := ⟨hx, hb, hml, hown, hts⟩
  unfold g_X5_takes at hg
  refine lv_aload_n hx hb dX5_takes_0 rfl (lv_at hl 0 rfl) ?_
  refine xget (ci := 5) (C := RX5) (T := TX5) (N := 20) (v := .int V_t_position) hx hb hts in_X5_takes_X5 hown hK hP 0 rfl rfl 17 (by decide) wd_X5_takes_1 rfl dX5_takes_1 ?_
  refine lv_aload_n hx hb dX5_takes_4 rfl (lv_at hl 0 rfl) ?_
  refine xget (ci := 5) (C := RX5) (T := TX5) (N := 20) (v := .int V_t_length) hx hb hts in_X5_takes_X5 hown hK hP 0 rfl rfl 8 (by decide) wd_X5_takes_2 rfl dX5_takes_5 ?_
  have hJ1 : ∀ (v2 : Int32), ∀ (H : Heap) (locs : List Loc), va_P D vwCl [(A_t, .inr (5, [.int V_t_thrown, .ref A_t_s, .ref A_t_aside, .ref A_t_snapshot, .int V_t_isKept, .ref A_t_saved, .int V_t_savedMany, .ref A_t_text, .int V_t_length, .ref A_t_counts, .ref A_t_isCut, .ref A_t_strength, .ref A_t_fails, .ref A_t_why, .ref A_t_driver, .ref A_t_place, .ref A_t_isDone, .int V_t_position, .int V_t_isWrong, .long V_t_digested])), (A_t_text, .inl (cI, 60, .inl V_t_text))] H → va_D A [(A_t, .inr (5, [.int V_t_thrown, .ref A_t_s, .ref A_t_aside, .ref A_t_snapshot, .int V_t_isKept, .ref A_t_saved, .int V_t_savedMany, .ref A_t_text, .int V_t_length, .ref A_t_counts, .ref A_t_isCut, .ref A_t_strength, .ref A_t_fails, .ref A_t_why, .ref A_t_driver, .ref A_t_place, .ref A_t_isDone, .int V_t_position, .int V_t_isWrong, .long V_t_digested])), (A_t_text, .inl (cI, 60, .inl V_t_text))] → va_S A s.heap H locs → ∀ ls : Array Slot, lv_has ls 4 [(0, .ref A_t), (1, .int x1), (2, .int x2)] → g_X5_takes_J1 V_t_isWrong x1 x2 V_t_position v2 = some (r0, w1, w2) → W p l e rX5_takes s m args below meth c H locs 0 0 Q (F0 m 24 ls [.int v2]) := by
    intro v2 H locs hP hD hS ls hl hg
    unfold g_X5_takes_J1 at hg
    refine lv_istore_n (lv' := [(3, .int v2), (0, .ref A_t), (1, .int x1), (2, .int x2)]) hx hb dX5_takes_24 rfl hl (by decide) rfl (fun ls hl => ?_)
    refine lv_aload_n hx hb dX5_takes_25 rfl (lv_at hl 1 rfl) ?_
    refine lv_aload_n hx hb dX5_takes_26 rfl (lv_at hl 1 rfl) ?_
    refine xget (ci := 5) (C := RX5) (T := TX5) (N := 20) (v := .int V_t_isWrong) hx hb hts in_X5_takes_X5 hown hK hP 0 rfl rfl 18 (by decide) wd_X5_takes_4 rfl dX5_takes_27 ?_
    have hJ2 : ∀ (v4 : Int32), bo v4 → ∀ (H : Heap) (locs : List Loc), va_P D vwCl [(A_t, .inr (5, [.int V_t_thrown, .ref A_t_s, .ref A_t_aside, .ref A_t_snapshot, .int V_t_isKept, .ref A_t_saved, .int V_t_savedMany, .ref A_t_text, .int V_t_length, .ref A_t_counts, .ref A_t_isCut, .ref A_t_strength, .ref A_t_fails, .ref A_t_why, .ref A_t_driver, .ref A_t_place, .ref A_t_isDone, .int V_t_position, .int V_t_isWrong, .long V_t_digested])), (A_t_text, .inl (cI, 60, .inl V_t_text))] H → va_D A [(A_t, .inr (5, [.int V_t_thrown, .ref A_t_s, .ref A_t_aside, .ref A_t_snapshot, .int V_t_isKept, .ref A_t_saved, .int V_t_savedMany, .ref A_t_text, .int V_t_length, .ref A_t_counts, .ref A_t_isCut, .ref A_t_strength, .ref A_t_fails, .ref A_t_why, .ref A_t_driver, .ref A_t_place, .ref A_t_isDone, .int V_t_position, .int V_t_isWrong, .long V_t_digested])), (A_t_text, .inl (cI, 60, .inl V_t_text))] → va_S A s.heap H locs → ∀ ls : Array Slot, lv_has ls 4 [(3, .int v2), (0, .ref A_t), (1, .int x1)] → g_X5_takes_J2 v2 x1 V_t_position v4 = some (r0, w1, w2) → W p l e rX5_takes s m args below meth c H locs 0 0 Q (F0 m 47 ls [.int v4, .ref A_t]) := by
      intro v4 hz_v4 H locs hP hD hS ls hl hg
      unfold g_X5_takes_J2 at hg
      refine xput (ci := 5) (C := RX5) (T := TX5) (N := 20) (ty := .boolean) (v := .int v4) (ws2 := [(A_t, .inr (5, [.int V_t_thrown, .ref A_t_s, .ref A_t_aside, .ref A_t_snapshot, .int V_t_isKept, .ref A_t_saved, .int V_t_savedMany, .ref A_t_text, .int V_t_length, .ref A_t_counts, .ref A_t_isCut, .ref A_t_strength, .ref A_t_fails, .ref A_t_why, .ref A_t_driver, .ref A_t_place, .ref A_t_isDone, .int V_t_position, .int v4, .long V_t_digested])), (A_t_text, .inl (cI, 60, .inl V_t_text))]) hx hb hts in_X5_takes_X5 tyX5 tyX5_ok nmX5 hown hK hP hD hS 0 rfl rfl 18 (by decide) wd_X5_takes_4 rfl (by decide +kernel) hz_v4.1 hz_v4.2 (Nat.le_of_ble_eq_true rfl) rfl dX5_takes_47 (fun H locs hP hD hS => ?_)
      refine lv_aload_n hx hb dX5_takes_50 rfl (lv_at hl 1 rfl) ?_
      refine lv_dup hx hb dX5_takes_51 rfl ?_
      refine xget (ci := 5) (C := RX5) (T := TX5) (N := 20) (v := .int V_t_position) hx hb hts in_X5_takes_X5 hown hK hP 0 rfl rfl 17 (by decide) wd_X5_takes_1 rfl dX5_takes_52 ?_
      refine lv_aload_n hx hb dX5_takes_55 rfl (lv_at hl 1 rfl) ?_
      refine xget (ci := 5) (C := RX5) (T := TX5) (N := 20) (v := .int v4) hx hb hts in_X5_takes_X5 hown hK hP 0 rfl rfl 18 (by decide) wd_X5_takes_4 rfl dX5_takes_56 ?_
      refine lv_if_eq (tgt := 66) hx hb dX5_takes_59 (by decide) (fun hc => ?_) (fun hc => ?_)
      · replace hg := if_yes hg hc
        refine lv_iconst (v := 1) hx hb dX5_takes_66 (by decide) ?_
        refine lv_iadd hx hb dX5_takes_67 ?_
        refine xput (ci := 5) (C := RX5) (T := TX5) (N := 20) (ty := .int) (v := .int (V_t_position + 1)) (ws2 := [(A_t, .inr (5, [.int V_t_thrown, .ref A_t_s, .ref A_t_aside, .ref A_t_snapshot, .int V_t_isKept, .ref A_t_saved, .int V_t_savedMany, .ref A_t_text, .int V_t_length, .ref A_t_counts, .ref A_t_isCut, .ref A_t_strength, .ref A_t_fails, .ref A_t_why, .ref A_t_driver, .ref A_t_place, .ref A_t_isDone, .int (V_t_position + 1), .int v4, .long V_t_digested])), (A_t_text, .inl (cI, 60, .inl V_t_text))]) hx hb hts in_X5_takes_X5 tyX5 tyX5_ok nmX5 hown hK hP hD hS 0 rfl rfl 17 (by decide) wd_X5_takes_1 rfl (by decide +kernel) rfl rfl (Nat.le_of_ble_eq_true rfl) rfl dX5_takes_68 (fun H locs hP hD hS => ?_)
        refine lv_iload_n hx hb dX5_takes_71 rfl (lv_at hl 0 rfl) ?_
        refine lv_iload_n hx hb dX5_takes_72 rfl (lv_at hl 2 rfl) ?_
        refine lv_isub hx hb dX5_takes_73 ?_
        cases hg
        exact fin _ _ _ _ dX5_takes_74 hP hD hS
      · replace hg := if_no hg hc
        refine lv_iconst (v := 0) hx hb dX5_takes_62 (by decide) ?_
        refine lv_goto (tgt := 67) hx hb dX5_takes_63 (by decide) ?_
        refine lv_iadd hx hb dX5_takes_67 ?_
        refine xput (ci := 5) (C := RX5) (T := TX5) (N := 20) (ty := .int) (v := .int (V_t_position + 0)) (ws2 := [(A_t, .inr (5, [.int V_t_thrown, .ref A_t_s, .ref A_t_aside, .ref A_t_snapshot, .int V_t_isKept, .ref A_t_saved, .int V_t_savedMany, .ref A_t_text, .int V_t_length, .ref A_t_counts, .ref A_t_isCut, .ref A_t_strength, .ref A_t_fails, .ref A_t_why, .ref A_t_driver, .ref A_t_place, .ref A_t_isDone, .int (V_t_position + 0), .int v4, .long V_t_digested])), (A_t_text, .inl (cI, 60, .inl V_t_text))]) hx hb hts in_X5_takes_X5 tyX5 tyX5_ok nmX5 hown hK hP hD hS 0 rfl rfl 17 (by decide) wd_X5_takes_1 rfl (by decide +kernel) rfl rfl (Nat.le_of_ble_eq_true rfl) rfl dX5_takes_68 (fun H locs hP hD hS => ?_)
        refine lv_iload_n hx hb dX5_takes_71 rfl (lv_at hl 0 rfl) ?_
        refine lv_iload_n hx hb dX5_takes_72 rfl (lv_at hl 2 rfl) ?_
        refine lv_isub hx hb dX5_takes_73 ?_
        cases hg
        exact fin _ _ _ _ dX5_takes_74 hP hD hS
    refine lv_if_ne (tgt := 42) hx hb dX5_takes_30 (by decide) (fun hc => ?_) (fun hc => ?_)
    · replace hg := if_no hg hc
      refine lv_iconst (v := 1) hx hb dX5_takes_42 (by decide) ?_
      refine lv_goto (tgt := 47) hx hb dX5_takes_43 (by decide) ?_
      exact hJ2 _ bo_1 _ _ hP hD hS _ (lv_sub hl [0, 1, 2] rfl) hg
    · replace hg := if_yes hg hc
      refine lv_iload_n hx hb dX5_takes_33 rfl (lv_at hl 0 rfl) ?_
      refine lv_iload_n hx hb dX5_takes_34 rfl (lv_at hl 2 rfl) ?_
      refine lv_iload_n hx hb dX5_takes_35 rfl (lv_at hl 3 rfl) ?_
      obtain ⟨v3, hq, hg⟩ := bind_ex hg
      refine callRSz (As := [.int v2, .int x1, .int x2]) (rest := [.ref A_t]) S hK hP (c_X5_in l D cI cZ cB cJ v2 x1 x2 v3 hq) [] rfl (va_cwS 3 hts gX5_takes_X5_in rfl rfl rfl hd_X5_in ⟨Nat.le_of_ble_eq_true rfl, Nat.le_of_ble_eq_true rfl⟩) rfl hl.1 rfl (Nat.le_of_ble_eq_true rfl) dX5_takes_36 ⟨Nat.zero_le _, Nat.zero_le _⟩ (fun hz_v3 => ?_)
      refine lv_if_ne (tgt := 46) hx hb dX5_takes_39 (by decide) (fun hc => ?_) (fun hc => ?_)
      · replace hg := if_no hg hc
        refine lv_iconst (v := 0) hx hb dX5_takes_46 (by decide) ?_
        exact hJ2 _ bo_0 _ _ hP hD hS _ (lv_sub hl [0, 1, 2] rfl) hg
      · replace hg := if_yes hg hc
        refine lv_iconst (v := 1) hx hb dX5_takes_42 (by decide) ?_
        refine lv_goto (tgt := 47) hx hb dX5_takes_43 (by decide) ?_
        exact hJ2 _ bo_1 _ _ hP hD hS _ (lv_sub hl [0, 1, 2] rfl) hg
  refine lv_icmp_ge (tgt := 23) hx hb dX5_takes_8 (by decide) (fun hc => ?_) (fun hc => ?_)
  · replace hg := if_yes hg hc
    refine lv_iconst (v := 0) hx hb dX5_takes_23 (by decide) ?_
    exact hJ1 _ _ _ hP hD hS _ (lv_sub hl [0, 1, 2] rfl) hg
  · replace hg := if_no hg hc
    refine lv_aload_n hx hb dX5_takes_11 rfl (lv_at hl 0 rfl) ?_
    refine xget (ci := 5) (C := RX5) (T := TX5) (N := 20) (v := .ref A_t_text) hx hb hts in_X5_takes_X5 hown hK hP 0 rfl rfl 7 (by decide) wd_X5_takes_3 rfl dX5_takes_12 ?_
    refine lv_aload_n hx hb dX5_takes_15 rfl (lv_at hl 0 rfl) ?_
    refine xget (ci := 5) (C := RX5) (T := TX5) (N := 20) (v := .int V_t_position) hx hb hts in_X5_takes_X5 hown hK hP 0 rfl rfl 17 (by decide) wd_X5_takes_1 rfl dX5_takes_16 ?_
    obtain ⟨v1, hin, hv, hg⟩ := rdA_ex hg
    refine xiald hx hb hK hP 1 rfl hin hv dX5_takes_19 ?_
    refine lv_goto (tgt := 24) hx hb dX5_takes_20 (by decide) ?_
    exact hJ1 _ _ _ hP hD hS _ (lv_sub hl [0, 1, 2] rfl) hg
theorem hd_X5_takesField : yX5_takesField.cls = RX5 ∧ yX5_takesField.cls ≠ "java/lang/invoke/MethodHandle" ∧ yX5_takesField.cls ≠ "java/lang/invoke/VarHandle" ∧ (parseMethodDescriptor yX5_takesField.desc).map (fun d => d.parameters.length) = some 0 := by decide +kernel
abbrev rX5_takesField : Room := { frames := 2, cells := 0, slots := 0, locals := 45 }
set_option maxHeartbeats 4000000 in
set_option maxRecDepth 100000 in
theorem c_X5_takesField (l : Launch) (D : va_G) (cI cZ cB cJ : ClassId) (A_t : Nat) (A_t_s : Nat) (A_t_aside : Nat) (A_t_snapshot : Nat) (A_t_saved : Nat) (A_t_text : Nat) (A_t_counts : Nat) (A_t_isCut : Nat) (A_t_strength : Nat) (A_t_fails : Nat) (A_t_why : Nat) (A_t_driver : Nat) (A_t_place : Nat) (A_t_isDone : Nat) (sz : Nat) (V_t_thrown : Int32) (V_t_isKept : Int32) (V_t_savedMany : Int32) (V_t_length : Int32) (V_t_position : Int32) (V_t_isWrong : Int32) (V_t_digested : Int64) (V_t_text : Nat → Int32) (r0 : Int32) (w1 : Int32) (w2 : Int32) (hg : g_X5_takesField V_t_length V_t_position V_t_isWrong V_t_text = some (r0, w1, w2)) : Met l yX5_takesField wsX5_takesField rX5_takesField (PcW D cI cZ cB cJ sz [(A_t, .inr (5, [.int V_t_thrown, .ref A_t_s, .ref A_t_aside, .ref A_t_snapshot, .int V_t_isKept, .ref A_t_saved, .int V_t_savedMany, .ref A_t_text, .int V_t_length, .ref A_t_counts, .ref A_t_isCut, .ref A_t_strength, .ref A_t_fails, .ref A_t_why, .ref A_t_driver, .ref A_t_place, .ref A_t_isDone, .int V_t_position, .int V_t_isWrong, .long V_t_digested])), (A_t_text, .inl (cI, 60, .inl V_t_text))] [.ref A_t]) (QWi D cI cZ cB cJ sz [(A_t, .inr (5, [.int V_t_thrown, .ref A_t_s, .ref A_t_aside, .ref A_t_snapshot, .int V_t_isKept, .ref A_t_saved, .int V_t_savedMany, .ref A_t_text, .int V_t_length, .ref A_t_counts, .ref A_t_isCut, .ref A_t_strength, .ref A_t_fails, .ref A_t_why, .ref A_t_driver, .ref A_t_place, .ref A_t_isDone, .int V_t_position, .int V_t_isWrong, .long V_t_digested])), (A_t_text, .inl (cI, 60, .inl V_t_text))] [(A_t, .inr (5, [.int V_t_thrown, .ref A_t_s, .ref A_t_aside, .ref A_t_snapshot, .int V_t_isKept, .ref A_t_saved, .int V_t_savedMany, .ref A_t_text, .int V_t_length, .ref A_t_counts, .ref A_t_isCut, .ref A_t_strength, .ref A_t_fails, .ref A_t_why, .ref A_t_driver, .ref A_t_place, .ref A_t_isDone, .int w1, .int w2, .long V_t_digested])), (A_t_text, .inl (cI, 60, .inl V_t_text))] r0) 0 0 (va_A [(A_t, .inr (5, [.int V_t_thrown, .ref A_t_s, .ref A_t_aside, .ref A_t_snapshot, .int V_t_isKept, .ref A_t_saved, .int V_t_savedMany, .ref A_t_text, .int V_t_length, .ref A_t_counts, .ref A_t_isCut, .ref A_t_strength, .ref A_t_fails, .ref A_t_why, .ref A_t_driver, .ref A_t_place, .ref A_t_isDone, .int V_t_position, .int V_t_isWrong, .long V_t_digested])), (A_t_text, .inl (cI, 60, .inl V_t_text))] sz) := by
  refine bodyWi (cc := cX5_takesField) (maxL := 2) (lv := [(0, .ref A_t)]) (by decide) rfl (Nat.le_of_ble_eq_true rfl) rfl ?_
  intro p e s m args below meth c Q hx hb hml hown hts A hP hK hD hA hS fin ls hl
  replace hown : s.vm.findClass RX5 = some m.cls := hown
  have S : CallFix p m c cX5_takesField 2 s args wsX5_takesField RX5 := ⟨hx, hb, hml, hown, hts⟩
  unfold g_X5_takesField at hg
  refine lv_aload_n hx hb dX5_takesField_0 rfl (lv_at hl 0 rfl) ?_
  refine lv_bipush (v := 48) hx hb dX5_takesField_1 (by decide) ?_
  refine lv_bipush (v := 57) hx hb dX5_takesField_3 (by decide) ?_
  obtain ⟨v3, v1, v2, hq, hg⟩ := b3_ex hg
  refine callWV (As := [.int 48, .int 57]) (rest := []) (wr := []) S hK hP hD hS hA (c_X5_takes l D cI cZ cB cJ A_t A_t_s A_t_aside A_t_snapshot A_t_saved A_t_text A_t_counts A_t_isCut A_t_strength A_t_fails A_t_why A_t_driver A_t_place A_t_isDone _ V_t_thrown V_t_isKept V_t_savedMany V_t_length V_t_position V_t_isWrong V_t_digested V_t_text 48 57 v3 v1 v2 hq) [0, 1] [] rfl rfl (by decide +kernel) (by decide +kernel) (by decide +kernel) (cwV 2 hts gX5_takesField_X5_takes rfl rfl rfl hd_X5_takes ⟨Nat.le_of_ble_eq_true rfl, Nat.le_of_ble_eq_true rfl⟩) rfl rfl rfl hl.1 rfl (Nat.le_of_ble_eq_true rfl) dX5_takesField_5 ⟨Nat.zero_le _, Nat.zero_le _⟩ (fun H locs hP hD hS => ?_)
  replace hP : va_P D vwCl [(A_t, .inr (5, [.int V_t_thrown, .ref A_t_s, .ref A_t_aside, .ref A_t_snapshot, .int V_t_isKept, .ref A_t_saved, .int V_t_savedMany, .ref A_t_text, .int V_t_length, .ref A_t_counts, .ref A_t_isCut, .ref A_t_strength, .ref A_t_fails, .ref A_t_why, .ref A_t_driver, .ref A_t_place, .ref A_t_isDone, .int v1, .int v2, .long V_t_digested])), (A_t_text, .inl (cI, 60, .inl V_t_text))] H := hP
  replace hD : va_D A [(A_t, .inr (5, [.int V_t_thrown, .ref A_t_s, .ref A_t_aside, .ref A_t_snapshot, .int V_t_isKept, .ref A_t_saved, .int V_t_savedMany, .ref A_t_text, .int V_t_length, .ref A_t_counts, .ref A_t_isCut, .ref A_t_strength, .ref A_t_fails, .ref A_t_why, .ref A_t_driver, .ref A_t_place, .ref A_t_isDone, .int v1, .int v2, .long V_t_digested])), (A_t_text, .inl (cI, 60, .inl V_t_text))] := hD
  refine lv_istore_n (lv' := [(1, .int v3), (0, .ref A_t)]) hx hb dX5_takesField_8 rfl hl (by decide) rfl (fun ls hl => ?_)
  refine lv_iload_n hx hb dX5_takesField_9 rfl (lv_at hl 0 rfl) ?_
  refine lv_iconst (v := 1) hx hb dX5_takesField_10 (by decide) ?_
  refine lv_icmp_ne (tgt := 39) hx hb dX5_takesField_11 (by decide) (fun hc => ?_) (fun hc => ?_)
  · replace hg := if_no hg hc
    refine lv_iload_n hx hb dX5_takesField_39 rfl (lv_at hl 0 rfl) ?_
    cases hg
    exact fin _ _ _ _ dX5_takesField_40 hP hD hS
  · replace hg := if_yes hg hc
    refine lv_aload_n hx hb dX5_takesField_14 rfl (lv_at hl 1 rfl) ?_
    refine lv_bipush (v := 48) hx hb dX5_takesField_15 (by decide) ?_
    refine lv_bipush (v := 49) hx hb dX5_takesField_17 (by decide) ?_
    obtain ⟨v4, hq, hg⟩ := bind_ex hg
    refine callRVz (As := [.int 48, .int 49]) (rest := []) S hK hP (c_X5_isNext l D cI cZ cB cJ A_t A_t_s A_t_aside A_t_snapshot A_t_saved A_t_text A_t_counts A_t_isCut A_t_strength A_t_fails A_t_why A_t_driver A_t_place A_t_isDone V_t_thrown V_t_isKept V_t_savedMany V_t_length v1 v2 V_t_digested V_t_text 48 49 v4 hq) [0, 1] rfl (cwV 2 hts gX5_takesField_X5_isNext rfl rfl rfl hd_X5_isNext ⟨Nat.le_of_ble_eq_true rfl, Nat.le_of_ble_eq_true rfl⟩) rfl rfl rfl hl.1 rfl (Nat.le_of_ble_eq_true rfl) dX5_takesField_19 ⟨Nat.zero_le _, Nat.zero_le _⟩ (fun hz_v4 => ?_)
    refine lv_if_eq (tgt := 39) hx hb dX5_takesField_22 (by decide) (fun hc => ?_) (fun hc => ?_)
    · replace hg := if_yes hg hc
      refine lv_iload_n hx hb dX5_takesField_39 rfl (lv_at hl 0 rfl) ?_
      cases hg
      exact fin _ _ _ _ dX5_takesField_40 hP hD hS
    · replace hg := if_no hg hc
      refine lv_bipush (v := 10) hx hb dX5_takesField_25 (by decide) ?_
      refine lv_aload_n hx hb dX5_takesField_27 rfl (lv_at hl 1 rfl) ?_
      refine lv_bipush (v := 48) hx hb dX5_takesField_28 (by decide) ?_
      refine lv_bipush (v := 49) hx hb dX5_takesField_30 (by decide) ?_
      obtain ⟨v7, v5, v6, hq, hg⟩ := b3_ex hg
      refine callWV (As := [.int 48, .int 49]) (rest := [.int 10]) (wr := []) S hK hP hD hS hA (c_X5_takes l D cI cZ cB cJ A_t A_t_s A_t_aside A_t_snapshot A_t_saved A_t_text A_t_counts A_t_isCut A_t_strength A_t_fails A_t_why A_t_driver A_t_place A_t_isDone _ V_t_thrown V_t_isKept V_t_savedMany V_t_length v1 v2 V_t_digested V_t_text 48 49 v7 v5 v6 hq) [0, 1] [] rfl rfl (by decide +kernel) (by decide +kernel) (by decide +kernel) (cwV 2 hts gX5_takesField_X5_takes rfl rfl rfl hd_X5_takes ⟨Nat.le_of_ble_eq_true rfl, Nat.le_of_ble_eq_true rfl⟩) rfl rfl rfl hl.1 rfl (Nat.le_of_ble_eq_true rfl) dX5_takesField_32 ⟨Nat.zero_le _, Nat.zero_le _⟩ (fun H locs hP hD hS => ?_)
      replace hP : va_P D vwCl [(A_t, .inr (5, [.int V_t_thrown, .ref A_t_s, .ref A_t_aside, .ref A_t_snapshot, .int V_t_isKept, .ref A_t_saved, .int V_t_savedMany, .ref A_t_text, .int V_t_length, .ref A_t_counts, .ref A_t_isCut, .ref A_t_strength, .ref A_t_fails, .ref A_t_why, .ref A_t_driver, .ref A_t_place, .ref A_t_isDone, .int v5, .int v6, .long V_t_digested])), (A_t_text, .inl (cI, 60, .inl V_t_text))] H := hP
      replace hD : va_D A [(A_t, .inr (5, [.int V_t_thrown, .ref A_t_s, .ref A_t_aside, .ref A_t_snapshot, .int V_t_isKept, .ref A_t_saved, .int V_t_savedMany, .ref A_t_text, .int V_t_length, .ref A_t_counts, .ref A_t_isCut, .ref A_t_strength, .ref A_t_fails, .ref A_t_why, .ref A_t_driver, .ref A_t_place, .ref A_t_isDone, .int v5, .int v6, .long V_t_digested])), (A_t_text, .inl (cI, 60, .inl V_t_text))] := hD
      refine lv_iadd hx hb dX5_takesField_35 ?_
      refine lv_goto (tgt := 40) hx hb dX5_takesField_36 (by decide) ?_
      cases hg
      exact fin _ _ _ _ dX5_takesField_40 hP hD hS
theorem hd_X5_part : yX5_part.cls = RX5 ∧ yX5_part.cls ≠ "java/lang/invoke/MethodHandle" ∧ yX5_part.cls ≠ "java/lang/invoke/VarHandle" ∧ (parseMethodDescriptor yX5_part.desc).map (fun d => d.parameters.length) = some 1 := by decide +kernel
theorem in_X5_part_X5 : ∀ w ∈ u_ws RX5 TX5 20, w ∈ wsX5_part := fun _ h => List.mem_cons_of_mem _ (List.mem_append_right _ h)
theorem wd_X5_part_1 : Cond.fieldLink RX5 176 "FogOrdersModel" "position" "I" ∈ wsX5_part := List.mem_of_getElem? (i := 1) rfl
theorem wd_X5_part_2 : Cond.fieldLink RX5 169 "FogOrdersModel" "length" "I" ∈ wsX5_part := List.mem_of_getElem? (i := 2) rfl
theorem wd_X5_part_4 : Cond.fieldLink RX5 172 "FogOrdersModel" "isWrong" "Z" ∈ wsX5_part := List.mem_of_getElem? (i := 4) rfl
theorem wd_X5_part_3 : Cond.fieldLink RX5 22 "FogOrdersModel" "text" "[I" ∈ wsX5_part := List.mem_of_getElem? (i := 3) rfl
abbrev rX5_part : Room := { frames := 3, cells := 0, slots := 0, locals := 66 }
set_option maxHeartbeats 4000000 in
set_option maxRecDepth 100000 in
theorem c_X5_part (l : Launch) (D : va_G) (cI cZ cB cJ : ClassId) (A_t : Nat) (A_t_s : Nat) (A_t_aside : Nat) (A_t_snapshot : Nat) (A_t_saved : Nat) (A_t_text : Nat) (A_t_counts : Nat) (A_t_isCut : Nat) (A_t_strength : Nat) (A_t_fails : Nat) (A_t_why : Nat) (A_t_driver : Nat) (A_t_place : Nat) (A_t_isDone : Nat) (sz : Nat) (V_t_thrown : Int32) (V_t_isKept : Int32) (V_t_savedMany : Int32) (V_t_length : Int32) (V_t_position : Int32) (V_t_isWrong : Int32) (V_t_digested : Int64) (V_t_text : Nat → Int32) (V_t_s : Nat → Int32) (x1 : Int32) (r0 : Int32) (w1 : Int32) (w2 : Int32) (w3 : Nat → Int32) (hg : g_X5_part V_t_length V_t_position V_t_isWrong V_t_text V_t_s x1 = some (r0, w1, w2, w3)) : Met l yX5_part wsX5_part rX5_part (PcW D cI cZ cB cJ sz [(A_t, .inr (5, [.int V_t_thrown, .ref A_t_s, .ref A_t_aside, .ref A_t_snapshot, .int V_t_isKept, .ref A_t_saved, .int V_t_savedMany, .ref A_t_text, .int V_t_length, .ref A_t_counts, .ref A_t_isCut, .ref A_t_strength, .ref A_t_fails, .ref A_t_why, .ref A_t_driver, .ref A_t_place, .ref A_t_isDone, .int V_t_position, .int V_t_isWrong, .long V_t_digested])), (A_t_text, .inl (cI, 60, .inl V_t_text)), (A_t_s, .inl (cI, 77, .inl V_t_s))] [.ref A_t, .int x1]) (QWz D cI cZ cB cJ sz [(A_t, .inr (5, [.int V_t_thrown, .ref A_t_s, .ref A_t_aside, .ref A_t_snapshot, .int V_t_isKept, .ref A_t_saved, .int V_t_savedMany, .ref A_t_text, .int V_t_length, .ref A_t_counts, .ref A_t_isCut, .ref A_t_strength, .ref A_t_fails, .ref A_t_why, .ref A_t_driver, .ref A_t_place, .ref A_t_isDone, .int V_t_position, .int V_t_isWrong, .long V_t_digested])), (A_t_text, .inl (cI, 60, .inl V_t_text)), (A_t_s, .inl (cI, 77, .inl V_t_s))] [(A_t, .inr (5, [.int V_t_thrown, .ref A_t_s, .ref A_t_aside, .ref A_t_snapshot, .int V_t_isKept, .ref A_t_saved, .int V_t_savedMany, .ref A_t_text, .int V_t_length, .ref A_t_counts, .ref A_t_isCut, .ref A_t_strength, .ref A_t_fails, .ref A_t_why, .ref A_t_driver, .ref A_t_place, .ref A_t_isDone, .int w1, .int w2, .long V_t_digested])), (A_t_text, .inl (cI, 60, .inl V_t_text)), (A_t_s, .inl (cI, 77, .inl w3))] r0) 0 0 (va_A [(A_t, .inr (5, [.int V_t_thrown, .ref A_t_s, .ref A_t_aside, .ref A_t_snapshot, .int V_t_isKept, .ref A_t_saved, .int V_t_savedMany, .ref A_t_text, .int V_t_length, .ref A_t_counts, .ref A_t_isCut, .ref A_t_strength, .ref A_t_fails, .ref A_t_why, .ref A_t_driver, .ref A_t_place, .ref A_t_isDone, .int V_t_position, .int V_t_isWrong, .long V_t_digested])), (A_t_text, .inl (cI, 60, .inl V_t_text)), (A_t_s, .inl (cI, 77, .inl V_t_s))] sz) := by
  refine bodyWz (cc := cX5_part) (maxL := 8) (lv := [(0, .ref A_t), (1, .int x1)]) (by decide) rfl (Nat.le_of_ble_eq_true rfl) rfl ?_
  intro p e s m args below meth c Q hx hb hml hown hts A hP hK hD hA hS fin ls hl
  replace hown : s.vm.findClass RX5 = some m.cls := hown
  have S : CallFix p m c cX5_part 8 s args wsX5_part RX5 := ⟨hx, hb, hml, hown, hts⟩
  unfold g_X5_part at hg
  refine lv_aload_n hx hb dX5_part_0 rfl (lv_at hl 0 rfl) ?_
  refine lv_bipush (v := 48) hx hb dX5_part_1 (by decide) ?_
  refine lv_bipush (v := 56) hx hb dX5_part_3 (by decide) ?_
  obtain ⟨v3, v1, v2, hq, hg⟩ := b3_ex hg
  refine callWV (As := [.int 48, .int 56]) (rest := []) (wr := [(A_t_s, .inl (cI, 77, .inl V_t_s))]) S hK hP hD hS hA (c_X5_takes l D cI cZ cB cJ A_t A_t_s A_t_aside A_t_snapshot A_t_saved A_t_text A_t_counts A_t_isCut A_t_strength A_t_fails A_t_why A_t_driver A_t_place A_t_isDone _ V_t_thrown V_t_isKept V_t_savedMany V_t_length V_t_position V_t_isWrong V_t_digested V_t_text 48 56 v3 v1 v2 hq) [0, 1] [2] rfl rfl (by decide +kernel) (by decide +kernel) (by decide +kernel) (cwV 2 hts gX5_part_X5_takes rfl rfl rfl hd_X5_takes ⟨Nat.le_of_ble_eq_true rfl, Nat.le_of_ble_eq_true rfl⟩) rfl rfl rfl hl.1 rfl (Nat.le_of_ble_eq_true rfl) dX5_part_5 ⟨Nat.zero_le _, Nat.zero_le _⟩ (fun H locs hP hD hS => ?_)
  replace hP : va_P D vwCl [(A_t_s, .inl (cI, 77, .inl V_t_s)), (A_t, .inr (5, [.int V_t_thrown, .ref A_t_s, .ref A_t_aside, .ref A_t_snapshot, .int V_t_isKept, .ref A_t_saved, .int V_t_savedMany, .ref A_t_text, .int V_t_length, .ref A_t_counts, .ref A_t_isCut, .ref A_t_strength, .ref A_t_fails, .ref A_t_why, .ref A_t_driver, .ref A_t_place, .ref A_t_isDone, .int v1, .int v2, .long V_t_digested])), (A_t_text, .inl (cI, 60, .inl V_t_text))] H := hP
  replace hD : va_D A [(A_t_s, .inl (cI, 77, .inl V_t_s)), (A_t, .inr (5, [.int V_t_thrown, .ref A_t_s, .ref A_t_aside, .ref A_t_snapshot, .int V_t_isKept, .ref A_t_saved, .int V_t_savedMany, .ref A_t_text, .int V_t_length, .ref A_t_counts, .ref A_t_isCut, .ref A_t_strength, .ref A_t_fails, .ref A_t_why, .ref A_t_driver, .ref A_t_place, .ref A_t_isDone, .int v1, .int v2, .long V_t_digested])), (A_t_text, .inl (cI, 60, .inl V_t_text))] := hD
  refine lv_istore_n (lv' := [(2, .int v3), (0, .ref A_t), (1, .int x1)]) hx hb dX5_part_8 rfl hl (by decide) rfl (fun ls hl => ?_)
  refine lv_aload_n hx hb dX5_part_9 rfl (lv_at hl 1 rfl) ?_
  refine xget (ci := 5) (C := RX5) (T := TX5) (N := 20) (v := .int v1) hx hb hts in_X5_part_X5 hown hK hP 1 rfl rfl 17 (by decide) wd_X5_part_1 rfl dX5_part_10 ?_
  refine lv_aload_n hx hb dX5_part_13 rfl (lv_at hl 1 rfl) ?_
  refine xget (ci := 5) (C := RX5) (T := TX5) (N := 20) (v := .int V_t_length) hx hb hts in_X5_part_X5 hown hK hP 1 rfl rfl 8 (by decide) wd_X5_part_2 rfl dX5_part_14 ?_
  have hJ1 : ∀ (v5 : Int32), ∀ (H : Heap) (locs : List Loc), va_P D vwCl [(A_t_s, .inl (cI, 77, .inl V_t_s)), (A_t, .inr (5, [.int V_t_thrown, .ref A_t_s, .ref A_t_aside, .ref A_t_snapshot, .int V_t_isKept, .ref A_t_saved, .int V_t_savedMany, .ref A_t_text, .int V_t_length, .ref A_t_counts, .ref A_t_isCut, .ref A_t_strength, .ref A_t_fails, .ref A_t_why, .ref A_t_driver, .ref A_t_place, .ref A_t_isDone, .int v1, .int v2, .long V_t_digested])), (A_t_text, .inl (cI, 60, .inl V_t_text))] H → va_D A [(A_t_s, .inl (cI, 77, .inl V_t_s)), (A_t, .inr (5, [.int V_t_thrown, .ref A_t_s, .ref A_t_aside, .ref A_t_snapshot, .int V_t_isKept, .ref A_t_saved, .int V_t_savedMany, .ref A_t_text, .int V_t_length, .ref A_t_counts, .ref A_t_isCut, .ref A_t_strength, .ref A_t_fails, .ref A_t_why, .ref A_t_driver, .ref A_t_place, .ref A_t_isDone, .int v1, .int v2, .long V_t_digested])), (A_t_text, .inl (cI, 60, .inl V_t_text))] → va_S A s.heap H locs → ∀ ls : Array Slot, lv_has ls 8 [(2, .int v3), (0, .ref A_t), (1, .int x1)] → g_X5_part_J1 v2 V_t_length v1 V_t_text x1 V_t_s v3 v5 = some (r0, w1, w2, w3) → W p l e rX5_part s m args below meth c H locs 0 0 Q (F0 m 33 ls [.int v5]) := by
    intro v5 H locs hP hD hS ls hl hg
    unfold g_X5_part_J1 at hg
    refine lv_istore_n (lv' := [(3, .int v5), (2, .int v3), (0, .ref A_t), (1, .int x1)]) hx hb dX5_part_33 rfl hl (by decide) rfl (fun ls hl => ?_)
    refine lv_aload_n hx hb dX5_part_34 rfl (lv_at hl 2 rfl) ?_
    refine lv_aload_n hx hb dX5_part_35 rfl (lv_at hl 2 rfl) ?_
    refine xget (ci := 5) (C := RX5) (T := TX5) (N := 20) (v := .int v2) hx hb hts in_X5_part_X5 hown hK hP 1 rfl rfl 18 (by decide) wd_X5_part_4 rfl dX5_part_36 ?_
    have hJ2 : ∀ (v6 : Int32), bo v6 → ∀ (H : Heap) (locs : List Loc), va_P D vwCl [(A_t_s, .inl (cI, 77, .inl V_t_s)), (A_t, .inr (5, [.int V_t_thrown, .ref A_t_s, .ref A_t_aside, .ref A_t_snapshot, .int V_t_isKept, .ref A_t_saved, .int V_t_savedMany, .ref A_t_text, .int V_t_length, .ref A_t_counts, .ref A_t_isCut, .ref A_t_strength, .ref A_t_fails, .ref A_t_why, .ref A_t_driver, .ref A_t_place, .ref A_t_isDone, .int v1, .int v2, .long V_t_digested])), (A_t_text, .inl (cI, 60, .inl V_t_text))] H → va_D A [(A_t_s, .inl (cI, 77, .inl V_t_s)), (A_t, .inr (5, [.int V_t_thrown, .ref A_t_s, .ref A_t_aside, .ref A_t_snapshot, .int V_t_isKept, .ref A_t_saved, .int V_t_savedMany, .ref A_t_text, .int V_t_length, .ref A_t_counts, .ref A_t_isCut, .ref A_t_strength, .ref A_t_fails, .ref A_t_why, .ref A_t_driver, .ref A_t_place, .ref A_t_isDone, .int v1, .int v2, .long V_t_digested])), (A_t_text, .inl (cI, 60, .inl V_t_text))] → va_S A s.heap H locs → ∀ ls : Array Slot, lv_has ls 8 [(3, .int v5), (2, .int v3), (0, .ref A_t), (1, .int x1)] → g_X5_part_J2 v5 V_t_length v1 V_t_text x1 V_t_s v3 v6 = some (r0, w1, w2, w3) → W p l e rX5_part s m args below meth c H locs 0 0 Q (F0 m 65 ls [.int v6, .ref A_t]) := by
      intro v6 hz_v6 H locs hP hD hS ls hl hg
      unfold g_X5_part_J2 at hg
      refine xput (ci := 5) (C := RX5) (T := TX5) (N := 20) (ty := .boolean) (v := .int v6) (ws2 := [(A_t_s, .inl (cI, 77, .inl V_t_s)), (A_t, .inr (5, [.int V_t_thrown, .ref A_t_s, .ref A_t_aside, .ref A_t_snapshot, .int V_t_isKept, .ref A_t_saved, .int V_t_savedMany, .ref A_t_text, .int V_t_length, .ref A_t_counts, .ref A_t_isCut, .ref A_t_strength, .ref A_t_fails, .ref A_t_why, .ref A_t_driver, .ref A_t_place, .ref A_t_isDone, .int v1, .int v6, .long V_t_digested])), (A_t_text, .inl (cI, 60, .inl V_t_text))]) hx hb hts in_X5_part_X5 tyX5 tyX5_ok nmX5 hown hK hP hD hS 1 rfl rfl 18 (by decide) wd_X5_part_4 rfl (by decide +kernel) hz_v6.1 hz_v6.2 (Nat.le_of_ble_eq_true rfl) rfl dX5_part_65 (fun H locs hP hD hS => ?_)
      refine lv_aload_n hx hb dX5_part_68 rfl (lv_at hl 2 rfl) ?_
      refine lv_dup hx hb dX5_part_69 rfl ?_
      refine xget (ci := 5) (C := RX5) (T := TX5) (N := 20) (v := .int v1) hx hb hts in_X5_part_X5 hown hK hP 1 rfl rfl 17 (by decide) wd_X5_part_1 rfl dX5_part_70 ?_
      refine lv_aload_n hx hb dX5_part_73 rfl (lv_at hl 2 rfl) ?_
      refine xget (ci := 5) (C := RX5) (T := TX5) (N := 20) (v := .int v6) hx hb hts in_X5_part_X5 hown hK hP 1 rfl rfl 18 (by decide) wd_X5_part_4 rfl dX5_part_74 ?_
      have hJ3 : ∀ (v7 : Int32), bo v7 → ∀ (H : Heap) (locs : List Loc), va_P D vwCl [(A_t_s, .inl (cI, 77, .inl V_t_s)), (A_t, .inr (5, [.int V_t_thrown, .ref A_t_s, .ref A_t_aside, .ref A_t_snapshot, .int V_t_isKept, .ref A_t_saved, .int V_t_savedMany, .ref A_t_text, .int V_t_length, .ref A_t_counts, .ref A_t_isCut, .ref A_t_strength, .ref A_t_fails, .ref A_t_why, .ref A_t_driver, .ref A_t_place, .ref A_t_isDone, .int v1, .int v6, .long V_t_digested])), (A_t_text, .inl (cI, 60, .inl V_t_text))] H → va_D A [(A_t_s, .inl (cI, 77, .inl V_t_s)), (A_t, .inr (5, [.int V_t_thrown, .ref A_t_s, .ref A_t_aside, .ref A_t_snapshot, .int V_t_isKept, .ref A_t_saved, .int V_t_savedMany, .ref A_t_text, .int V_t_length, .ref A_t_counts, .ref A_t_isCut, .ref A_t_strength, .ref A_t_fails, .ref A_t_why, .ref A_t_driver, .ref A_t_place, .ref A_t_isDone, .int v1, .int v6, .long V_t_digested])), (A_t_text, .inl (cI, 60, .inl V_t_text))] → va_S A s.heap H locs → ∀ ls : Array Slot, lv_has ls 8 [(3, .int v5), (2, .int v3), (0, .ref A_t), (1, .int x1)] → g_X5_part_J3 v5 V_t_length v1 v6 V_t_text x1 V_t_s v3 v7 = some (r0, w1, w2, w3) → W p l e rX5_part s m args below meth c H locs 0 0 Q (F0 m 85 ls [.int v7, .int v1, .ref A_t]) := by
        intro v7 hz_v7 H locs hP hD hS ls hl hg
        unfold g_X5_part_J3 at hg
        refine lv_iadd hx hb dX5_part_85 ?_
        refine xput (ci := 5) (C := RX5) (T := TX5) (N := 20) (ty := .int) (v := .int (v1 + v7)) (ws2 := [(A_t_s, .inl (cI, 77, .inl V_t_s)), (A_t, .inr (5, [.int V_t_thrown, .ref A_t_s, .ref A_t_aside, .ref A_t_snapshot, .int V_t_isKept, .ref A_t_saved, .int V_t_savedMany, .ref A_t_text, .int V_t_length, .ref A_t_counts, .ref A_t_isCut, .ref A_t_strength, .ref A_t_fails, .ref A_t_why, .ref A_t_driver, .ref A_t_place, .ref A_t_isDone, .int (v1 + v7), .int v6, .long V_t_digested])), (A_t_text, .inl (cI, 60, .inl V_t_text))]) hx hb hts in_X5_part_X5 tyX5 tyX5_ok nmX5 hown hK hP hD hS 1 rfl rfl 17 (by decide) wd_X5_part_1 rfl (by decide +kernel) rfl rfl (Nat.le_of_ble_eq_true rfl) rfl dX5_part_86 (fun H locs hP hD hS => ?_)
        refine lv_iload_n hx hb dX5_part_89 rfl (lv_at hl 0 rfl) ?_
        refine lv_bipush (v := 115) hx hb dX5_part_90 (by decide) ?_
        have hJ4 : ∀ (v11 : Int32) (v12 : Int32) (v13 : Int32), ∀ (H : Heap) (locs : List Loc), va_P D vwCl [(A_t_s, .inl (cI, 77, .inl V_t_s)), (A_t, .inr (5, [.int V_t_thrown, .ref A_t_s, .ref A_t_aside, .ref A_t_snapshot, .int V_t_isKept, .ref A_t_saved, .int V_t_savedMany, .ref A_t_text, .int V_t_length, .ref A_t_counts, .ref A_t_isCut, .ref A_t_strength, .ref A_t_fails, .ref A_t_why, .ref A_t_driver, .ref A_t_place, .ref A_t_isDone, .int v12, .int v13, .long V_t_digested])), (A_t_text, .inl (cI, 60, .inl V_t_text))] H → va_D A [(A_t_s, .inl (cI, 77, .inl V_t_s)), (A_t, .inr (5, [.int V_t_thrown, .ref A_t_s, .ref A_t_aside, .ref A_t_snapshot, .int V_t_isKept, .ref A_t_saved, .int V_t_savedMany, .ref A_t_text, .int V_t_length, .ref A_t_counts, .ref A_t_isCut, .ref A_t_strength, .ref A_t_fails, .ref A_t_why, .ref A_t_driver, .ref A_t_place, .ref A_t_isDone, .int v12, .int v13, .long V_t_digested])), (A_t_text, .inl (cI, 60, .inl V_t_text))] → va_S A s.heap H locs → ∀ ls : Array Slot, lv_has ls 8 [(3, .int v5), (2, .int v3), (0, .ref A_t), (1, .int x1)] → g_X5_part_J4 v5 V_t_length V_t_text x1 V_t_s v3 v11 v12 v13 = some (r0, w1, w2, w3) → W p l e rX5_part s m args below meth c H locs 0 0 Q (F0 m 103 ls [.int v11]) := by
          intro v11 v12 v13 H locs hP hD hS ls hl hg
          unfold g_X5_part_J4 at hg
          refine lv_istore (lv' := [(4, .int v11), (3, .int v5), (2, .int v3), (0, .ref A_t), (1, .int x1)]) hx hb dX5_part_103 hl (by decide) rfl (fun ls hl => ?_)
          refine lv_iload_n hx hb dX5_part_105 rfl (lv_at hl 1 rfl) ?_
          refine lv_bipush (v := 115) hx hb dX5_part_106 (by decide) ?_
          have hJ5 : ∀ (v17 : Int32) (v18 : Int32) (v19 : Int32), ∀ (H : Heap) (locs : List Loc), va_P D vwCl [(A_t_s, .inl (cI, 77, .inl V_t_s)), (A_t, .inr (5, [.int V_t_thrown, .ref A_t_s, .ref A_t_aside, .ref A_t_snapshot, .int V_t_isKept, .ref A_t_saved, .int V_t_savedMany, .ref A_t_text, .int V_t_length, .ref A_t_counts, .ref A_t_isCut, .ref A_t_strength, .ref A_t_fails, .ref A_t_why, .ref A_t_driver, .ref A_t_place, .ref A_t_isDone, .int v18, .int v19, .long V_t_digested])), (A_t_text, .inl (cI, 60, .inl V_t_text))] H → va_D A [(A_t_s, .inl (cI, 77, .inl V_t_s)), (A_t, .inr (5, [.int V_t_thrown, .ref A_t_s, .ref A_t_aside, .ref A_t_snapshot, .int V_t_isKept, .ref A_t_saved, .int V_t_savedMany, .ref A_t_text, .int V_t_length, .ref A_t_counts, .ref A_t_isCut, .ref A_t_strength, .ref A_t_fails, .ref A_t_why, .ref A_t_driver, .ref A_t_place, .ref A_t_isDone, .int v18, .int v19, .long V_t_digested])), (A_t_text, .inl (cI, 60, .inl V_t_text))] → va_S A s.heap H locs → ∀ ls : Array Slot, lv_has ls 8 [(4, .int v11), (3, .int v5), (2, .int v3), (0, .ref A_t), (1, .int x1)] → g_X5_part_J5 v5 x1 V_t_s v3 v11 V_t_length V_t_text v17 v18 v19 = some (r0, w1, w2, w3) → W p l e rX5_part s m args below meth c H locs 0 0 Q (F0 m 123 ls [.int v17]) := by
            intro v17 v18 v19 H locs hP hD hS ls hl hg
            unfold g_X5_part_J5 at hg
            refine lv_istore (lv' := [(5, .int v17), (4, .int v11), (3, .int v5), (2, .int v3), (0, .ref A_t), (1, .int x1)]) hx hb dX5_part_123 hl (by decide) rfl (fun ls hl => ?_)
            refine lv_iload_n hx hb dX5_part_125 rfl (lv_at hl 2 rfl) ?_
            refine lv_bipush (v := 104) hx hb dX5_part_126 (by decide) ?_
            have hJ6 : ∀ (v23 : Int32) (v24 : Int32) (v25 : Int32), ∀ (H : Heap) (locs : List Loc), va_P D vwCl [(A_t_s, .inl (cI, 77, .inl V_t_s)), (A_t, .inr (5, [.int V_t_thrown, .ref A_t_s, .ref A_t_aside, .ref A_t_snapshot, .int V_t_isKept, .ref A_t_saved, .int V_t_savedMany, .ref A_t_text, .int V_t_length, .ref A_t_counts, .ref A_t_isCut, .ref A_t_strength, .ref A_t_fails, .ref A_t_why, .ref A_t_driver, .ref A_t_place, .ref A_t_isDone, .int v24, .int v25, .long V_t_digested])), (A_t_text, .inl (cI, 60, .inl V_t_text))] H → va_D A [(A_t_s, .inl (cI, 77, .inl V_t_s)), (A_t, .inr (5, [.int V_t_thrown, .ref A_t_s, .ref A_t_aside, .ref A_t_snapshot, .int V_t_isKept, .ref A_t_saved, .int V_t_savedMany, .ref A_t_text, .int V_t_length, .ref A_t_counts, .ref A_t_isCut, .ref A_t_strength, .ref A_t_fails, .ref A_t_why, .ref A_t_driver, .ref A_t_place, .ref A_t_isDone, .int v24, .int v25, .long V_t_digested])), (A_t_text, .inl (cI, 60, .inl V_t_text))] → va_S A s.heap H locs → ∀ ls : Array Slot, lv_has ls 8 [(4, .int v11), (3, .int v5), (2, .int v3), (0, .ref A_t), (1, .int x1)] → g_X5_part_J6 x1 V_t_s v5 v3 v11 v23 v24 v25 = some (r0, w1, w2, w3) → W p l e rX5_part s m args below meth c H locs 0 0 Q (F0 m 139 ls [.int v23]) := by
              intro v23 v24 v25 H locs hP hD hS ls hl hg
              unfold g_X5_part_J6 at hg
              refine lv_istore (lv' := [(6, .int v23), (4, .int v11), (3, .int v5), (2, .int v3), (0, .ref A_t), (1, .int x1)]) hx hb dX5_part_139 hl (by decide) rfl (fun ls hl => ?_)
              refine lv_iload_n hx hb dX5_part_141 rfl (lv_at hl 5 rfl) ?_
              have hJ7 : ∀ (v27 : Int32), bo v27 → ∀ (H : Heap) (locs : List Loc), va_P D vwCl [(A_t_s, .inl (cI, 77, .inl V_t_s)), (A_t, .inr (5, [.int V_t_thrown, .ref A_t_s, .ref A_t_aside, .ref A_t_snapshot, .int V_t_isKept, .ref A_t_saved, .int V_t_savedMany, .ref A_t_text, .int V_t_length, .ref A_t_counts, .ref A_t_isCut, .ref A_t_strength, .ref A_t_fails, .ref A_t_why, .ref A_t_driver, .ref A_t_place, .ref A_t_isDone, .int v24, .int v25, .long V_t_digested])), (A_t_text, .inl (cI, 60, .inl V_t_text))] H → va_D A [(A_t_s, .inl (cI, 77, .inl V_t_s)), (A_t, .inr (5, [.int V_t_thrown, .ref A_t_s, .ref A_t_aside, .ref A_t_snapshot, .int V_t_isKept, .ref A_t_saved, .int V_t_savedMany, .ref A_t_text, .int V_t_length, .ref A_t_counts, .ref A_t_isCut, .ref A_t_strength, .ref A_t_fails, .ref A_t_why, .ref A_t_driver, .ref A_t_place, .ref A_t_isDone, .int v24, .int v25, .long V_t_digested])), (A_t_text, .inl (cI, 60, .inl V_t_text))] → va_S A s.heap H locs → ∀ ls : Array Slot, lv_has ls 8 [(6, .int v23), (4, .int v11), (3, .int v5), (2, .int v3), (0, .ref A_t)] → g_X5_part_J7 v24 v25 V_t_s v5 v3 v23 v11 v27 = some (r0, w1, w2, w3) → W p l e rX5_part s m args below meth c H locs 0 0 Q (F0 m 158 ls [.int v27]) := by
                intro v27 hz_v27 H locs hP hD hS ls hl hg
                unfold g_X5_part_J7 at hg
                refine lv_istore (lv' := [(7, .int v27), (6, .int v23), (4, .int v11), (3, .int v5), (2, .int v3), (0, .ref A_t)]) hx hb dX5_part_158 hl (by decide) rfl (fun ls hl => ?_)
                refine lv_iload hx hb dX5_part_160 (lv_at hl 0 rfl) ?_
                have hJ8 : ∀ (v31 : Int32), bo v31 → ∀ (H : Heap) (locs : List Loc), va_P D vwCl [(A_t_s, .inl (cI, 77, .inl V_t_s)), (A_t, .inr (5, [.int V_t_thrown, .ref A_t_s, .ref A_t_aside, .ref A_t_snapshot, .int V_t_isKept, .ref A_t_saved, .int V_t_savedMany, .ref A_t_text, .int V_t_length, .ref A_t_counts, .ref A_t_isCut, .ref A_t_strength, .ref A_t_fails, .ref A_t_why, .ref A_t_driver, .ref A_t_place, .ref A_t_isDone, .int v24, .int v25, .long V_t_digested])), (A_t_text, .inl (cI, 60, .inl V_t_text))] H → va_D A [(A_t_s, .inl (cI, 77, .inl V_t_s)), (A_t, .inr (5, [.int V_t_thrown, .ref A_t_s, .ref A_t_aside, .ref A_t_snapshot, .int V_t_isKept, .ref A_t_saved, .int V_t_savedMany, .ref A_t_text, .int V_t_length, .ref A_t_counts, .ref A_t_isCut, .ref A_t_strength, .ref A_t_fails, .ref A_t_why, .ref A_t_driver, .ref A_t_place, .ref A_t_isDone, .int v24, .int v25, .long V_t_digested])), (A_t_text, .inl (cI, 60, .inl V_t_text))] → va_S A s.heap H locs → ∀ ls : Array Slot, lv_has ls 8 [(7, .int v31), (6, .int v23), (4, .int v11), (3, .int v5), (2, .int v3), (0, .ref A_t)] → g_X5_part_J8 v24 v25 V_t_s v5 v3 v23 v11 v31 = some (r0, w1, w2, w3) → W p l e rX5_part s m args below meth c H locs 0 0 Q (F0 m 209 ls []) := by
                  intro v31 hz_v31 H locs hP hD hS ls hl hg
                  unfold g_X5_part_J8 at hg
                  refine lv_iload hx hb dX5_part_209 (lv_at hl 0 rfl) ?_
                  refine lv_if_eq (tgt := 244) hx hb dX5_part_211 (by decide) (fun hc => ?_) (fun hc => ?_)
                  · replace hg := if_yes hg hc
                    refine lv_iload hx hb dX5_part_244 (lv_at hl 0 rfl) ?_
                    cases hg
                    exact fin _ _ _ _ hz_v31 dX5_part_246 (hP.sub [1, 2, 0] rfl) (hD.sub [1, 2, 0] (by decide) rfl) hS
                  · replace hg := if_no hg hc
                    refine lv_aload_n hx hb dX5_part_214 rfl (lv_at hl 5 rfl) ?_
                    refine lv_iload_n hx hb dX5_part_215 rfl (lv_at hl 4 rfl) ?_
                    refine lv_iload_n hx hb dX5_part_216 rfl (lv_at hl 3 rfl) ?_
                    refine lv_bipush (v := 104) hx hb dX5_part_217 (by decide) ?_
                    have hJ9 : ∀ (v32 : Int32), ∀ (H : Heap) (locs : List Loc), va_P D vwCl [(A_t_s, .inl (cI, 77, .inl V_t_s)), (A_t, .inr (5, [.int V_t_thrown, .ref A_t_s, .ref A_t_aside, .ref A_t_snapshot, .int V_t_isKept, .ref A_t_saved, .int V_t_savedMany, .ref A_t_text, .int V_t_length, .ref A_t_counts, .ref A_t_isCut, .ref A_t_strength, .ref A_t_fails, .ref A_t_why, .ref A_t_driver, .ref A_t_place, .ref A_t_isDone, .int v24, .int v25, .long V_t_digested])), (A_t_text, .inl (cI, 60, .inl V_t_text))] H → va_D A [(A_t_s, .inl (cI, 77, .inl V_t_s)), (A_t, .inr (5, [.int V_t_thrown, .ref A_t_s, .ref A_t_aside, .ref A_t_snapshot, .int V_t_isKept, .ref A_t_saved, .int V_t_savedMany, .ref A_t_text, .int V_t_length, .ref A_t_counts, .ref A_t_isCut, .ref A_t_strength, .ref A_t_fails, .ref A_t_why, .ref A_t_driver, .ref A_t_place, .ref A_t_isDone, .int v24, .int v25, .long V_t_digested])), (A_t_text, .inl (cI, 60, .inl V_t_text))] → va_S A s.heap H locs → ∀ ls : Array Slot, lv_has ls 8 [(7, .int v31), (6, .int v23), (4, .int v11)] → g_X5_part_J9 V_t_s v3 v23 v11 v31 v24 v25 v32 = some (r0, w1, w2, w3) → W p l e rX5_part s m args below meth c H locs 0 0 Q (F0 m 237 ls [.int v32, .int v3, .ref A_t]) := by
                      intro v32 H locs hP hD hS ls hl hg
                      unfold g_X5_part_J9 at hg
                      refine lv_iload hx hb dX5_part_237 (lv_at hl 1 rfl) ?_
                      refine lv_iload hx hb dX5_part_239 (lv_at hl 2 rfl) ?_
                      obtain ⟨f33, hq, hg⟩ := bind_ex hg
                      refine callWVv (As := [.int v3, .int v32, .int v23, .int v11]) (rest := []) (wr := [(A_t_text, .inl (cI, 60, .inl V_t_text))]) S hK hP hD hS hA (c_X5_lays l D cI cZ cB cJ A_t A_t_s A_t_aside A_t_snapshot A_t_saved A_t_text A_t_counts A_t_isCut A_t_strength A_t_fails A_t_why A_t_driver A_t_place A_t_isDone _ V_t_thrown V_t_isKept V_t_savedMany V_t_length v24 v25 V_t_digested V_t_s v3 v32 v23 v11 f33 hq) [1, 0] [2] rfl rfl (by decide +kernel) (by decide +kernel) (by decide +kernel) (cwV 4 hts gX5_part_X5_lays rfl rfl rfl hd_X5_lays ⟨Nat.le_of_ble_eq_true rfl, Nat.le_of_ble_eq_true rfl⟩) rfl rfl rfl hl.1 rfl (Nat.le_of_ble_eq_true rfl) dX5_part_241 ⟨Nat.zero_le _, Nat.zero_le _⟩ (fun H locs hP hD hS => ?_)
                      replace hP : va_P D vwCl [(A_t_text, .inl (cI, 60, .inl V_t_text)), (A_t, .inr (5, [.int V_t_thrown, .ref A_t_s, .ref A_t_aside, .ref A_t_snapshot, .int V_t_isKept, .ref A_t_saved, .int V_t_savedMany, .ref A_t_text, .int V_t_length, .ref A_t_counts, .ref A_t_isCut, .ref A_t_strength, .ref A_t_fails, .ref A_t_why, .ref A_t_driver, .ref A_t_place, .ref A_t_isDone, .int v24, .int v25, .long V_t_digested])), (A_t_s, .inl (cI, 77, .inl f33))] H := hP
                      replace hD : va_D A [(A_t_text, .inl (cI, 60, .inl V_t_text)), (A_t, .inr (5, [.int V_t_thrown, .ref A_t_s, .ref A_t_aside, .ref A_t_snapshot, .int V_t_isKept, .ref A_t_saved, .int V_t_savedMany, .ref A_t_text, .int V_t_length, .ref A_t_counts, .ref A_t_isCut, .ref A_t_strength, .ref A_t_fails, .ref A_t_why, .ref A_t_driver, .ref A_t_place, .ref A_t_isDone, .int v24, .int v25, .long V_t_digested])), (A_t_s, .inl (cI, 77, .inl f33))] := hD
                      refine lv_iload hx hb dX5_part_244 (lv_at hl 0 rfl) ?_
                      cases hg
                      exact fin _ _ _ _ hz_v31 dX5_part_246 (hP.sub [1, 0, 2] rfl) (hD.sub [1, 0, 2] (by decide) rfl) hS
                    refine lv_icmp_ne (tgt := 226) hx hb dX5_part_219 (by decide) (fun hc => ?_) (fun hc => ?_)
                    · replace hg := if_no hg hc
                      refine lv_iload_n hx hb dX5_part_226 rfl (lv_at hl 3 rfl) ?_
                      refine lv_bipush (v := 109) hx hb dX5_part_227 (by decide) ?_
                      refine lv_icmp_ne (tgt := 236) hx hb dX5_part_229 (by decide) (fun hc => ?_) (fun hc => ?_)
                      · replace hg := if_no hg hc
                        refine lv_iconst (v := 2) hx hb dX5_part_236 (by decide) ?_
                        exact hJ9 _ _ _ hP hD hS _ (lv_sub hl [0, 1, 2] rfl) hg
                      · replace hg := if_yes hg hc
                        refine lv_iconst (v := 1) hx hb dX5_part_232 (by decide) ?_
                        refine lv_goto (tgt := 237) hx hb dX5_part_233 (by decide) ?_
                        exact hJ9 _ _ _ hP hD hS _ (lv_sub hl [0, 1, 2] rfl) hg
                    · replace hg := if_yes hg hc
                      refine lv_iconst (v := 0) hx hb dX5_part_222 (by decide) ?_
                      refine lv_goto (tgt := 237) hx hb dX5_part_223 (by decide) ?_
                      exact hJ9 _ _ _ hP hD hS _ (lv_sub hl [0, 1, 2] rfl) hg
                have hJ10 : ∀ (H : Heap) (locs : List Loc), va_P D vwCl [(A_t_s, .inl (cI, 77, .inl V_t_s)), (A_t, .inr (5, [.int V_t_thrown, .ref A_t_s, .ref A_t_aside, .ref A_t_snapshot, .int V_t_isKept, .ref A_t_saved, .int V_t_savedMany, .ref A_t_text, .int V_t_length, .ref A_t_counts, .ref A_t_isCut, .ref A_t_strength, .ref A_t_fails, .ref A_t_why, .ref A_t_driver, .ref A_t_place, .ref A_t_isDone, .int v24, .int v25, .long V_t_digested])), (A_t_text, .inl (cI, 60, .inl V_t_text))] H → va_D A [(A_t_s, .inl (cI, 77, .inl V_t_s)), (A_t, .inr (5, [.int V_t_thrown, .ref A_t_s, .ref A_t_aside, .ref A_t_snapshot, .int V_t_isKept, .ref A_t_saved, .int V_t_savedMany, .ref A_t_text, .int V_t_length, .ref A_t_counts, .ref A_t_isCut, .ref A_t_strength, .ref A_t_fails, .ref A_t_why, .ref A_t_driver, .ref A_t_place, .ref A_t_isDone, .int v24, .int v25, .long V_t_digested])), (A_t_text, .inl (cI, 60, .inl V_t_text))] → va_S A s.heap H locs → ∀ ls : Array Slot, lv_has ls 8 [(7, .int v27), (6, .int v23), (4, .int v11), (3, .int v5), (2, .int v3), (0, .ref A_t)] → g_X5_part_J10 v27 v24 v25 V_t_s v5 v3 v23 v11 = some (r0, w1, w2, w3) → W p l e rX5_part s m args below meth c H locs 0 0 Q (F0 m 187 ls []) := by
                  intro H locs hP hD hS ls hl hg
                  unfold g_X5_part_J10 at hg
                  refine lv_iload hx hb dX5_part_187 (lv_at hl 0 rfl) ?_
                  refine lv_if_eq (tgt := 209) hx hb dX5_part_189 (by decide) (fun hc => ?_) (fun hc => ?_)
                  · replace hg := if_yes hg hc
                    exact hJ8 _ hz_v27 _ _ hP hD hS _ (lv_sub hl [0, 1, 2, 3, 4, 5] rfl) hg
                  · replace hg := if_no hg hc
                    refine lv_iload_n hx hb dX5_part_192 rfl (lv_at hl 3 rfl) ?_
                    refine lv_bipush (v := 115) hx hb dX5_part_193 (by decide) ?_
                    refine lv_icmp_ne (tgt := 209) hx hb dX5_part_195 (by decide) (fun hc => ?_) (fun hc => ?_)
                    · replace hg := if_no hg hc
                      exact hJ8 _ hz_v27 _ _ hP hD hS _ (lv_sub hl [0, 1, 2, 3, 4, 5] rfl) hg
                    · replace hg := if_yes hg hc
                      refine lv_aload_n hx hb dX5_part_198 rfl (lv_at hl 5 rfl) ?_
                      refine lv_iload_n hx hb dX5_part_199 rfl (lv_at hl 4 rfl) ?_
                      refine lv_iload hx hb dX5_part_200 (lv_at hl 2 rfl) ?_
                      refine lv_iload hx hb dX5_part_202 (lv_at hl 1 rfl) ?_
                      obtain ⟨v30, hq, hg⟩ := bind_ex hg
                      refine callRVz (As := [.int v3, .int v11, .int v23]) (rest := []) S hK hP (c_X5_canSupport l D cI cZ cB cJ A_t A_t_s A_t_aside A_t_snapshot A_t_saved A_t_text A_t_counts A_t_isCut A_t_strength A_t_fails A_t_why A_t_driver A_t_place A_t_isDone V_t_thrown V_t_isKept V_t_savedMany V_t_length v24 v25 V_t_digested V_t_s v3 v11 v23 v30 hq) [1, 0] rfl (cwV 3 hts gX5_part_X5_canSupport rfl rfl rfl hd_X5_canSupport ⟨Nat.le_of_ble_eq_true rfl, Nat.le_of_ble_eq_true rfl⟩) rfl rfl rfl hl.1 rfl (Nat.le_of_ble_eq_true rfl) dX5_part_204 ⟨Nat.zero_le _, Nat.zero_le _⟩ (fun hz_v30 => ?_)
                      refine lv_istore (lv' := [(7, .int v30), (6, .int v23), (4, .int v11), (3, .int v5), (2, .int v3), (0, .ref A_t)]) hx hb dX5_part_207 hl (by decide) rfl (fun ls hl => ?_)
                      exact hJ8 _ hz_v30 _ _ hP hD hS _ (lv_sub hl [0, 1, 2, 3, 4, 5] rfl) hg
                refine lv_if_eq (tgt := 187) hx hb dX5_part_162 (by decide) (fun hc => ?_) (fun hc => ?_)
                · replace hg := if_yes hg hc
                  exact hJ10 _ _ hP hD hS _ (lv_sub hl [0, 1, 2, 3, 4, 5] rfl) hg
                · replace hg := if_no hg hc
                  refine lv_iload_n hx hb dX5_part_165 rfl (lv_at hl 3 rfl) ?_
                  refine lv_bipush (v := 109) hx hb dX5_part_166 (by decide) ?_
                  refine lv_icmp_ne (tgt := 187) hx hb dX5_part_168 (by decide) (fun hc => ?_) (fun hc => ?_)
                  · replace hg := if_no hg hc
                    exact hJ10 _ _ hP hD hS _ (lv_sub hl [0, 1, 2, 3, 4, 5] rfl) hg
                  · replace hg := if_yes hg hc
                    refine lv_aload_n hx hb dX5_part_171 rfl (lv_at hl 5 rfl) ?_
                    refine lv_iload_n hx hb dX5_part_172 rfl (lv_at hl 4 rfl) ?_
                    refine lv_iconst (v := 1) hx hb dX5_part_173 (by decide) ?_
                    obtain ⟨v28, hq, hg⟩ := bind_ex hg
                    refine callRVi (As := [.int v3, .int 1]) (rest := []) S hK hP (c_X5_of l D cI cZ cB cJ A_t A_t_s A_t_aside A_t_snapshot A_t_saved A_t_text A_t_counts A_t_isCut A_t_strength A_t_fails A_t_why A_t_driver A_t_place A_t_isDone V_t_thrown V_t_isKept V_t_savedMany V_t_length v24 v25 V_t_digested V_t_s v3 1 v28 hq) [1, 0] rfl (cwV 2 hts gX5_part_X5_of rfl rfl rfl hd_X5_of ⟨Nat.le_of_ble_eq_true rfl, Nat.le_of_ble_eq_true rfl⟩) rfl rfl rfl hl.1 rfl (Nat.le_of_ble_eq_true rfl) dX5_part_174 ⟨Nat.zero_le _, Nat.zero_le _⟩ ?_
                    refine lv_iload hx hb dX5_part_177 (lv_at hl 1 rfl) ?_
                    obtain ⟨v29, hq, hg⟩ := bind_ex hg
                    refine callRSz (As := [.int v28, .int v23]) (rest := []) S hK hP (c_X5_areNeighbours l D cI cZ cB cJ v28 v23 v29 hq) [] rfl (va_cwS 2 hts gX5_part_X5_areNeighbours rfl rfl rfl hd_X5_areNeighbours ⟨Nat.le_of_ble_eq_true rfl, Nat.le_of_ble_eq_true rfl⟩) rfl hl.1 rfl (Nat.le_of_ble_eq_true rfl) dX5_part_179 ⟨Nat.zero_le _, Nat.zero_le _⟩ (fun hz_v29 => ?_)
                    refine lv_istore (lv' := [(7, .int v29), (6, .int v23), (4, .int v11), (3, .int v5), (2, .int v3), (0, .ref A_t)]) hx hb dX5_part_182 hl (by decide) rfl (fun ls hl => ?_)
                    refine lv_goto (tgt := 209) hx hb dX5_part_184 (by decide) ?_
                    exact hJ8 _ hz_v29 _ _ hP hD hS _ (lv_sub hl [0, 1, 2, 3, 4, 5] rfl) hg
              refine lv_if_eq (tgt := 157) hx hb dX5_part_142 (by decide) (fun hc => ?_) (fun hc => ?_)
              · replace hg := if_yes hg hc
                refine lv_iconst (v := 0) hx hb dX5_part_157 (by decide) ?_
                exact hJ7 _ bo_0 _ _ hP hD hS _ (lv_sub hl [0, 1, 2, 3, 4] rfl) hg
              · replace hg := if_no hg hc
                refine lv_aload_n hx hb dX5_part_145 rfl (lv_at hl 4 rfl) ?_
                refine lv_iload_n hx hb dX5_part_146 rfl (lv_at hl 3 rfl) ?_
                obtain ⟨v26, hq, hg⟩ := bind_ex hg
                refine callRVz (As := [.int v3]) (rest := []) S hK hP (c_X5_isArmy l D cI cZ cB cJ A_t A_t_s A_t_aside A_t_snapshot A_t_saved A_t_text A_t_counts A_t_isCut A_t_strength A_t_fails A_t_why A_t_driver A_t_place A_t_isDone V_t_thrown V_t_isKept V_t_savedMany V_t_length v24 v25 V_t_digested V_t_s v3 v26 hq) [1, 0] rfl (cwV 1 hts gX5_part_X5_isArmy rfl rfl rfl hd_X5_isArmy ⟨Nat.le_of_ble_eq_true rfl, Nat.le_of_ble_eq_true rfl⟩) rfl rfl rfl hl.1 rfl (Nat.le_of_ble_eq_true rfl) dX5_part_147 ⟨Nat.zero_le _, Nat.zero_le _⟩ (fun hz_v26 => ?_)
                refine lv_if_eq (tgt := 157) hx hb dX5_part_150 (by decide) (fun hc => ?_) (fun hc => ?_)
                · replace hg := if_yes hg hc
                  refine lv_iconst (v := 0) hx hb dX5_part_157 (by decide) ?_
                  exact hJ7 _ bo_0 _ _ hP hD hS _ (lv_sub hl [0, 1, 2, 3, 4] rfl) hg
                · replace hg := if_no hg hc
                  refine lv_iconst (v := 1) hx hb dX5_part_153 (by decide) ?_
                  refine lv_goto (tgt := 158) hx hb dX5_part_154 (by decide) ?_
                  exact hJ7 _ bo_1 _ _ hP hD hS _ (lv_sub hl [0, 1, 2, 3, 4] rfl) hg
            refine lv_icmp_ne (tgt := 135) hx hb dX5_part_128 (by decide) (fun hc => ?_) (fun hc => ?_)
            · replace hg := if_no hg hc
              refine lv_aload_n hx hb dX5_part_135 rfl (lv_at hl 4 rfl) ?_
              obtain ⟨v22, v20, v21, hq, hg⟩ := b3_ex hg
              refine callWV (As := []) (rest := []) (wr := [(A_t_s, .inl (cI, 77, .inl V_t_s))]) S hK hP hD hS hA (c_X5_takesField l D cI cZ cB cJ A_t A_t_s A_t_aside A_t_snapshot A_t_saved A_t_text A_t_counts A_t_isCut A_t_strength A_t_fails A_t_why A_t_driver A_t_place A_t_isDone _ V_t_thrown V_t_isKept V_t_savedMany V_t_length v18 v19 V_t_digested V_t_text v22 v20 v21 hq) [1, 2] [0] rfl rfl (by decide +kernel) (by decide +kernel) (by decide +kernel) (cwV 0 hts gX5_part_X5_takesField rfl rfl rfl hd_X5_takesField ⟨Nat.le_of_ble_eq_true rfl, Nat.le_of_ble_eq_true rfl⟩) rfl rfl rfl hl.1 rfl (Nat.le_of_ble_eq_true rfl) dX5_part_136 ⟨Nat.zero_le _, Nat.zero_le _⟩ (fun H locs hP hD hS => ?_)
              replace hP : va_P D vwCl [(A_t_s, .inl (cI, 77, .inl V_t_s)), (A_t, .inr (5, [.int V_t_thrown, .ref A_t_s, .ref A_t_aside, .ref A_t_snapshot, .int V_t_isKept, .ref A_t_saved, .int V_t_savedMany, .ref A_t_text, .int V_t_length, .ref A_t_counts, .ref A_t_isCut, .ref A_t_strength, .ref A_t_fails, .ref A_t_why, .ref A_t_driver, .ref A_t_place, .ref A_t_isDone, .int v20, .int v21, .long V_t_digested])), (A_t_text, .inl (cI, 60, .inl V_t_text))] H := hP
              replace hD : va_D A [(A_t_s, .inl (cI, 77, .inl V_t_s)), (A_t, .inr (5, [.int V_t_thrown, .ref A_t_s, .ref A_t_aside, .ref A_t_snapshot, .int V_t_isKept, .ref A_t_saved, .int V_t_savedMany, .ref A_t_text, .int V_t_length, .ref A_t_counts, .ref A_t_isCut, .ref A_t_strength, .ref A_t_fails, .ref A_t_why, .ref A_t_driver, .ref A_t_place, .ref A_t_isDone, .int v20, .int v21, .long V_t_digested])), (A_t_text, .inl (cI, 60, .inl V_t_text))] := hD
              exact hJ6 _ _ _ _ _ hP hD hS _ (lv_sub hl [1, 2, 3, 4, 5] rfl) hg
            · replace hg := if_yes hg hc
              refine lv_iconst (v := (-1)) hx hb dX5_part_131 (by decide) ?_
              refine lv_goto (tgt := 139) hx hb dX5_part_132 (by decide) ?_
              exact hJ6 _ _ _ _ _ hP hD hS _ (lv_sub hl [1, 2, 3, 4, 5] rfl) hg
          refine lv_icmp_ne (tgt := 122) hx hb dX5_part_108 (by decide) (fun hc => ?_) (fun hc => ?_)
          · replace hg := if_no hg hc
            refine lv_iconst (v := 0) hx hb dX5_part_122 (by decide) ?_
            exact hJ5 _ _ _ _ _ hP hD hS _ (lv_sub hl [0, 1, 2, 3, 4] rfl) hg
          · replace hg := if_yes hg hc
            refine lv_aload_n hx hb dX5_part_111 rfl (lv_at hl 3 rfl) ?_
            refine lv_bipush (v := 45) hx hb dX5_part_112 (by decide) ?_
            refine lv_bipush (v := 45) hx hb dX5_part_114 (by decide) ?_
            obtain ⟨v16, v14, v15, hq, hg⟩ := b3_ex hg
            refine callWV (As := [.int 45, .int 45]) (rest := []) (wr := [(A_t_s, .inl (cI, 77, .inl V_t_s))]) S hK hP hD hS hA (c_X5_takes l D cI cZ cB cJ A_t A_t_s A_t_aside A_t_snapshot A_t_saved A_t_text A_t_counts A_t_isCut A_t_strength A_t_fails A_t_why A_t_driver A_t_place A_t_isDone _ V_t_thrown V_t_isKept V_t_savedMany V_t_length v12 v13 V_t_digested V_t_text 45 45 v16 v14 v15 hq) [1, 2] [0] rfl rfl (by decide +kernel) (by decide +kernel) (by decide +kernel) (cwV 2 hts gX5_part_X5_takes rfl rfl rfl hd_X5_takes ⟨Nat.le_of_ble_eq_true rfl, Nat.le_of_ble_eq_true rfl⟩) rfl rfl rfl hl.1 rfl (Nat.le_of_ble_eq_true rfl) dX5_part_116 ⟨Nat.zero_le _, Nat.zero_le _⟩ (fun H locs hP hD hS => ?_)
            replace hP : va_P D vwCl [(A_t_s, .inl (cI, 77, .inl V_t_s)), (A_t, .inr (5, [.int V_t_thrown, .ref A_t_s, .ref A_t_aside, .ref A_t_snapshot, .int V_t_isKept, .ref A_t_saved, .int V_t_savedMany, .ref A_t_text, .int V_t_length, .ref A_t_counts, .ref A_t_isCut, .ref A_t_strength, .ref A_t_fails, .ref A_t_why, .ref A_t_driver, .ref A_t_place, .ref A_t_isDone, .int v14, .int v15, .long V_t_digested])), (A_t_text, .inl (cI, 60, .inl V_t_text))] H := hP
            replace hD : va_D A [(A_t_s, .inl (cI, 77, .inl V_t_s)), (A_t, .inr (5, [.int V_t_thrown, .ref A_t_s, .ref A_t_aside, .ref A_t_snapshot, .int V_t_isKept, .ref A_t_saved, .int V_t_savedMany, .ref A_t_text, .int V_t_length, .ref A_t_counts, .ref A_t_isCut, .ref A_t_strength, .ref A_t_fails, .ref A_t_why, .ref A_t_driver, .ref A_t_place, .ref A_t_isDone, .int v14, .int v15, .long V_t_digested])), (A_t_text, .inl (cI, 60, .inl V_t_text))] := hD
            refine lv_goto (tgt := 123) hx hb dX5_part_119 (by decide) ?_
            exact hJ5 _ _ _ _ _ hP hD hS _ (lv_sub hl [0, 1, 2, 3, 4] rfl) hg
        refine lv_icmp_ne (tgt := 102) hx hb dX5_part_92 (by decide) (fun hc => ?_) (fun hc => ?_)
        · replace hg := if_no hg hc
          refine lv_iconst (v := (-1)) hx hb dX5_part_102 (by decide) ?_
          exact hJ4 _ _ _ _ _ hP hD hS _ (lv_sub hl [0, 1, 2, 3] rfl) hg
        · replace hg := if_yes hg hc
          refine lv_aload_n hx hb dX5_part_95 rfl (lv_at hl 2 rfl) ?_
          obtain ⟨v10, v8, v9, hq, hg⟩ := b3_ex hg
          refine callWV (As := []) (rest := []) (wr := [(A_t_s, .inl (cI, 77, .inl V_t_s))]) S hK hP hD hS hA (c_X5_takesField l D cI cZ cB cJ A_t A_t_s A_t_aside A_t_snapshot A_t_saved A_t_text A_t_counts A_t_isCut A_t_strength A_t_fails A_t_why A_t_driver A_t_place A_t_isDone _ V_t_thrown V_t_isKept V_t_savedMany V_t_length (v1 + v7) v6 V_t_digested V_t_text v10 v8 v9 hq) [1, 2] [0] rfl rfl (by decide +kernel) (by decide +kernel) (by decide +kernel) (cwV 0 hts gX5_part_X5_takesField rfl rfl rfl hd_X5_takesField ⟨Nat.le_of_ble_eq_true rfl, Nat.le_of_ble_eq_true rfl⟩) rfl rfl rfl hl.1 rfl (Nat.le_of_ble_eq_true rfl) dX5_part_96 ⟨Nat.zero_le _, Nat.zero_le _⟩ (fun H locs hP hD hS => ?_)
          replace hP : va_P D vwCl [(A_t_s, .inl (cI, 77, .inl V_t_s)), (A_t, .inr (5, [.int V_t_thrown, .ref A_t_s, .ref A_t_aside, .ref A_t_snapshot, .int V_t_isKept, .ref A_t_saved, .int V_t_savedMany, .ref A_t_text, .int V_t_length, .ref A_t_counts, .ref A_t_isCut, .ref A_t_strength, .ref A_t_fails, .ref A_t_why, .ref A_t_driver, .ref A_t_place, .ref A_t_isDone, .int v8, .int v9, .long V_t_digested])), (A_t_text, .inl (cI, 60, .inl V_t_text))] H := hP
          replace hD : va_D A [(A_t_s, .inl (cI, 77, .inl V_t_s)), (A_t, .inr (5, [.int V_t_thrown, .ref A_t_s, .ref A_t_aside, .ref A_t_snapshot, .int V_t_isKept, .ref A_t_saved, .int V_t_savedMany, .ref A_t_text, .int V_t_length, .ref A_t_counts, .ref A_t_isCut, .ref A_t_strength, .ref A_t_fails, .ref A_t_why, .ref A_t_driver, .ref A_t_place, .ref A_t_isDone, .int v8, .int v9, .long V_t_digested])), (A_t_text, .inl (cI, 60, .inl V_t_text))] := hD
          refine lv_goto (tgt := 103) hx hb dX5_part_99 (by decide) ?_
          exact hJ4 _ _ _ _ _ hP hD hS _ (lv_sub hl [0, 1, 2, 3] rfl) hg
      refine lv_if_eq (tgt := 84) hx hb dX5_part_77 (by decide) (fun hc => ?_) (fun hc => ?_)
      · replace hg := if_yes hg hc
        refine lv_iconst (v := 1) hx hb dX5_part_84 (by decide) ?_
        exact hJ3 _ bo_1 _ _ hP hD hS _ (lv_sub hl [0, 1, 2, 3] rfl) hg
      · replace hg := if_no hg hc
        refine lv_iconst (v := 0) hx hb dX5_part_80 (by decide) ?_
        refine lv_goto (tgt := 85) hx hb dX5_part_81 (by decide) ?_
        exact hJ3 _ bo_0 _ _ hP hD hS _ (lv_sub hl [0, 1, 2, 3] rfl) hg
    refine lv_if_ne (tgt := 60) hx hb dX5_part_39 (by decide) (fun hc => ?_) (fun hc => ?_)
    · replace hg := if_no hg hc
      refine lv_iconst (v := 1) hx hb dX5_part_60 (by decide) ?_
      refine lv_goto (tgt := 65) hx hb dX5_part_61 (by decide) ?_
      exact hJ2 _ bo_1 _ _ hP hD hS _ (lv_sub hl [0, 1, 2, 3] rfl) hg
    · replace hg := if_yes hg hc
      refine lv_iload_n hx hb dX5_part_42 rfl (lv_at hl 0 rfl) ?_
      refine lv_bipush (v := 104) hx hb dX5_part_43 (by decide) ?_
      refine lv_icmp_eq (tgt := 64) hx hb dX5_part_45 (by decide) (fun hc => ?_) (fun hc => ?_)
      · replace hg := if_yes hg hc
        refine lv_iconst (v := 0) hx hb dX5_part_64 (by decide) ?_
        exact hJ2 _ bo_0 _ _ hP hD hS _ (lv_sub hl [0, 1, 2, 3] rfl) hg
      · replace hg := if_no hg hc
        refine lv_iload_n hx hb dX5_part_48 rfl (lv_at hl 0 rfl) ?_
        refine lv_bipush (v := 109) hx hb dX5_part_49 (by decide) ?_
        refine lv_icmp_eq (tgt := 64) hx hb dX5_part_51 (by decide) (fun hc => ?_) (fun hc => ?_)
        · replace hg := if_yes hg hc
          refine lv_iconst (v := 0) hx hb dX5_part_64 (by decide) ?_
          exact hJ2 _ bo_0 _ _ hP hD hS _ (lv_sub hl [0, 1, 2, 3] rfl) hg
        · replace hg := if_no hg hc
          refine lv_iload_n hx hb dX5_part_54 rfl (lv_at hl 0 rfl) ?_
          refine lv_bipush (v := 115) hx hb dX5_part_55 (by decide) ?_
          refine lv_icmp_eq (tgt := 64) hx hb dX5_part_57 (by decide) (fun hc => ?_) (fun hc => ?_)
          · replace hg := if_yes hg hc
            refine lv_iconst (v := 0) hx hb dX5_part_64 (by decide) ?_
            exact hJ2 _ bo_0 _ _ hP hD hS _ (lv_sub hl [0, 1, 2, 3] rfl) hg
          · replace hg := if_no hg hc
            refine lv_iconst (v := 1) hx hb dX5_part_60 (by decide) ?_
            refine lv_goto (tgt := 65) hx hb dX5_part_61 (by decide) ?_
            exact hJ2 _ bo_1 _ _ hP hD hS _ (lv_sub hl [0, 1, 2, 3] rfl) hg
  refine lv_icmp_ge (tgt := 32) hx hb dX5_part_17 (by decide) (fun hc => ?_) (fun hc => ?_)
  · replace hg := if_yes hg hc
    refine lv_iconst (v := 0) hx hb dX5_part_32 (by decide) ?_
    exact hJ1 _ _ _ hP hD hS _ (lv_sub hl [0, 1, 2] rfl) hg
  · replace hg := if_no hg hc
    refine lv_aload_n hx hb dX5_part_20 rfl (lv_at hl 1 rfl) ?_
    refine xget (ci := 5) (C := RX5) (T := TX5) (N := 20) (v := .ref A_t_text) hx hb hts in_X5_part_X5 hown hK hP 1 rfl rfl 7 (by decide) wd_X5_part_3 rfl dX5_part_21 ?_
    refine lv_aload_n hx hb dX5_part_24 rfl (lv_at hl 1 rfl) ?_
    refine xget (ci := 5) (C := RX5) (T := TX5) (N := 20) (v := .int v1) hx hb hts in_X5_part_X5 hown hK hP 1 rfl rfl 17 (by decide) wd_X5_part_1 rfl dX5_part_25 ?_
    obtain ⟨v4, hin, hv, hg⟩ := rdA_ex hg
    refine xiald hx hb hK hP 2 rfl hin hv dX5_part_28 ?_
    refine lv_goto (tgt := 33) hx hb dX5_part_29 (by decide) ?_
    exact hJ1 _ _ _ hP hD hS _ (lv_sub hl [0, 1, 2] rfl) hg
theorem hd_X5_reads : yX5_reads.cls = RX5 ∧ yX5_reads.cls ≠ "java/lang/invoke/MethodHandle" ∧ yX5_reads.cls ≠ "java/lang/invoke/VarHandle" ∧ (parseMethodDescriptor yX5_reads.desc).map (fun d => d.parameters.length) = some 1 := by decide +kernel
theorem in_X5_reads_X5 : ∀ w ∈ u_ws RX5 TX5 20, w ∈ wsX5_reads := fun _ h => List.mem_cons_of_mem _ (List.mem_append_right _ h)
theorem wd_X5_reads_1 : Cond.fieldLink RX5 176 "FogOrdersModel" "position" "I" ∈ wsX5_reads := List.mem_of_getElem? (i := 1) rfl
theorem wd_X5_reads_2 : Cond.fieldLink RX5 172 "FogOrdersModel" "isWrong" "Z" ∈ wsX5_reads := List.mem_of_getElem? (i := 2) rfl
theorem wd_X5_reads_3 : Cond.fieldLink RX5 169 "FogOrdersModel" "length" "I" ∈ wsX5_reads := List.mem_of_getElem? (i := 3) rfl
abbrev rX5_reads : Room := { frames := 4, cells := 0, slots := 0, locals := 93 }
set_option maxHeartbeats 4000000 in
set_option maxRecDepth 100000 in
theorem c_X5_reads (l : Launch) (D : va_G) (cI cZ cB cJ : ClassId) (A_t : Nat) (A_t_s : Nat) (A_t_aside : Nat) (A_t_snapshot : Nat) (A_t_saved : Nat) (A_t_text : Nat) (A_t_counts : Nat) (A_t_isCut : Nat) (A_t_strength : Nat) (A_t_fails : Nat) (A_t_why : Nat) (A_t_driver : Nat) (A_t_place : Nat) (A_t_isDone : Nat) (sz : Nat) (V_t_thrown : Int32) (V_t_isKept : Int32) (V_t_savedMany : Int32) (V_t_length : Int32) (V_t_position : Int32) (V_t_isWrong : Int32) (V_t_digested : Int64) (V_t_text : Nat → Int32) (V_t_s : Nat → Int32) (x1 : Int32) (r0 : Int32) (w1 : Int32) (w2 : Int32) (w3 : Nat → Int32) (hg : g_X5_reads V_t_length V_t_position V_t_isWrong V_t_text V_t_s x1 = some (r0, w1, w2, w3)) : Met l yX5_reads wsX5_reads rX5_reads (PcW D cI cZ cB cJ sz [(A_t, .inr (5, [.int V_t_thrown, .ref A_t_s, .ref A_t_aside, .ref A_t_snapshot, .int V_t_isKept, .ref A_t_saved, .int V_t_savedMany, .ref A_t_text, .int V_t_length, .ref A_t_counts, .ref A_t_isCut, .ref A_t_strength, .ref A_t_fails, .ref A_t_why, .ref A_t_driver, .ref A_t_place, .ref A_t_isDone, .int V_t_position, .int V_t_isWrong, .long V_t_digested])), (A_t_text, .inl (cI, 60, .inl V_t_text)), (A_t_s, .inl (cI, 77, .inl V_t_s))] [.ref A_t, .int x1]) (QWi D cI cZ cB cJ sz [(A_t, .inr (5, [.int V_t_thrown, .ref A_t_s, .ref A_t_aside, .ref A_t_snapshot, .int V_t_isKept, .ref A_t_saved, .int V_t_savedMany, .ref A_t_text, .int V_t_length, .ref A_t_counts, .ref A_t_isCut, .ref A_t_strength, .ref A_t_fails, .ref A_t_why, .ref A_t_driver, .ref A_t_place, .ref A_t_isDone, .int V_t_position, .int V_t_isWrong, .long V_t_digested])), (A_t_text, .inl (cI, 60, .inl V_t_text)), (A_t_s, .inl (cI, 77, .inl V_t_s))] [(A_t, .inr (5, [.int V_t_thrown, .ref A_t_s, .ref A_t_aside, .ref A_t_snapshot, .int V_t_isKept, .ref A_t_saved, .int V_t_savedMany, .ref A_t_text, .int V_t_length, .ref A_t_counts, .ref A_t_isCut, .ref A_t_strength, .ref A_t_fails, .ref A_t_why, .ref A_t_driver, .ref A_t_place, .ref A_t_isDone, .int w1, .int w2, .long V_t_digested])), (A_t_text, .inl (cI, 60, .inl V_t_text)), (A_t_s, .inl (cI, 77, .inl w3))] r0) 0 0 (va_A [(A_t, .inr (5, [.int V_t_thrown, .ref A_t_s, .ref A_t_aside, .ref A_t_snapshot, .int V_t_isKept, .ref A_t_saved, .int V_t_savedMany, .ref A_t_text, .int V_t_length, .ref A_t_counts, .ref A_t_isCut, .ref A_t_strength, .ref A_t_fails, .ref A_t_why, .ref A_t_driver, .ref A_t_place, .ref A_t_isDone, .int V_t_position, .int V_t_isWrong, .long V_t_digested])), (A_t_text, .inl (cI, 60, .inl V_t_text)), (A_t_s, .inl (cI, 77, .inl V_t_s))] sz) := by
  refine bodyWi (cc := cX5_reads) (maxL := 5) (lv := [(0, .ref A_t), (1, .int x1)]) (by decide) rfl (Nat.le_of_ble_eq_true rfl) rfl ?_
  intro p e s m args below meth c Q hx hb hml hown hts A hP hK hD hA hS fin ls hl
  replace hown : s.vm.findClass RX5 = some m.cls := hown
  have S : CallFix p m c cX5_reads 5 s args wsX5_reads RX5 := ⟨hx, hb, hml, hown, hts⟩
  unfold g_X5_reads at hg
  refine lv_aload_n hx hb dX5_reads_0 rfl (lv_at hl 0 rfl) ?_
  refine lv_iconst (v := 0) hx hb dX5_reads_1 (by decide) ?_
  refine xput (ci := 5) (C := RX5) (T := TX5) (N := 20) (ty := .int) (v := .int 0) (ws2 := [(A_t, .inr (5, [.int V_t_thrown, .ref A_t_s, .ref A_t_aside, .ref A_t_snapshot, .int V_t_isKept, .ref A_t_saved, .int V_t_savedMany, .ref A_t_text, .int V_t_length, .ref A_t_counts, .ref A_t_isCut, .ref A_t_strength, .ref A_t_fails, .ref A_t_why, .ref A_t_driver, .ref A_t_place, .ref A_t_isDone, .int 0, .int V_t_isWrong, .long V_t_digested])), (A_t_text, .inl (cI, 60, .inl V_t_text)), (A_t_s, .inl (cI, 77, .inl V_t_s))]) hx hb hts in_X5_reads_X5 tyX5 tyX5_ok nmX5 hown hK hP hD hS 0 rfl rfl 17 (by decide) wd_X5_reads_1 rfl (by decide +kernel) rfl rfl (Nat.le_of_ble_eq_true rfl) rfl dX5_reads_2 (fun H locs hP hD hS => ?_)
  refine lv_aload_n hx hb dX5_reads_5 rfl (lv_at hl 0 rfl) ?_
  refine lv_iconst (v := 0) hx hb dX5_reads_6 (by decide) ?_
  refine xput (ci := 5) (C := RX5) (T := TX5) (N := 20) (ty := .boolean) (v := .int 0) (ws2 := [(A_t, .inr (5, [.int V_t_thrown, .ref A_t_s, .ref A_t_aside, .ref A_t_snapshot, .int V_t_isKept, .ref A_t_saved, .int V_t_savedMany, .ref A_t_text, .int V_t_length, .ref A_t_counts, .ref A_t_isCut, .ref A_t_strength, .ref A_t_fails, .ref A_t_why, .ref A_t_driver, .ref A_t_place, .ref A_t_isDone, .int 0, .int 0, .long V_t_digested])), (A_t_text, .inl (cI, 60, .inl V_t_text)), (A_t_s, .inl (cI, 77, .inl V_t_s))]) hx hb hts in_X5_reads_X5 tyX5 tyX5_ok nmX5 hown hK hP hD hS 0 rfl rfl 18 (by decide) wd_X5_reads_2 rfl (by decide +kernel) bo_0.1 bo_0.2 (Nat.le_of_ble_eq_true rfl) rfl dX5_reads_7 (fun H locs hP hD hS => ?_)
  refine lv_iconst (v := 0) hx hb dX5_reads_10 (by decide) ?_
  refine lv_istore_n (lv' := [(2, .int 0), (0, .ref A_t), (1, .int x1)]) hx hb dX5_reads_11 rfl hl (by decide) rfl (fun ls hl => ?_)
  refine lv_iconst (v := 1) hx hb dX5_reads_12 (by decide) ?_
  refine lv_istore_n (lv' := [(3, .int 1), (2, .int 0), (0, .ref A_t), (1, .int x1)]) hx hb dX5_reads_13 rfl hl (by decide) rfl (fun ls hl => ?_)
  obtain ⟨v15, v16, v17, f18, hL, hg⟩ := b4_ex hg
  have kx : ∀ (H : Heap) (locs : List Loc), va_P D vwCl [(A_t, .inr (5, [.int V_t_thrown, .ref A_t_s, .ref A_t_aside, .ref A_t_snapshot, .int V_t_isKept, .ref A_t_saved, .int V_t_savedMany, .ref A_t_text, .int V_t_length, .ref A_t_counts, .ref A_t_isCut, .ref A_t_strength, .ref A_t_fails, .ref A_t_why, .ref A_t_driver, .ref A_t_place, .ref A_t_isDone, .int v17, .int v16, .long V_t_digested])), (A_t_text, .inl (cI, 60, .inl V_t_text)), (A_t_s, .inl (cI, 77, .inl f18))] H → va_D A [(A_t, .inr (5, [.int V_t_thrown, .ref A_t_s, .ref A_t_aside, .ref A_t_snapshot, .int V_t_isKept, .ref A_t_saved, .int V_t_savedMany, .ref A_t_text, .int V_t_length, .ref A_t_counts, .ref A_t_isCut, .ref A_t_strength, .ref A_t_fails, .ref A_t_why, .ref A_t_driver, .ref A_t_place, .ref A_t_isDone, .int v17, .int v16, .long V_t_digested])), (A_t_text, .inl (cI, 60, .inl V_t_text)), (A_t_s, .inl (cI, 77, .inl f18))] → va_S A s.heap H locs → ∀ ls : Array Slot, lv_has ls 5 [(2, .int v15)] → W p l e rX5_reads s m args below meth c H locs 0 0 Q (F0 m 88 ls []) := by
    intro H locs hP hD hS ls hl
    refine lv_iload_n hx hb dX5_reads_88 rfl (lv_at hl 0 rfl) ?_
    cases hg
    exact fin _ _ _ _ dX5_reads_89 hP hD hS
  have L : ∀ (nf : Nat) (v1 : Int32) (v2 : Int32) (v3 : Int32) (v4 : Int32) (f5 : Nat → Int32), bo v2 → ∀ (H : Heap) (locs : List Loc), va_P D vwCl [(A_t, .inr (5, [.int V_t_thrown, .ref A_t_s, .ref A_t_aside, .ref A_t_snapshot, .int V_t_isKept, .ref A_t_saved, .int V_t_savedMany, .ref A_t_text, .int V_t_length, .ref A_t_counts, .ref A_t_isCut, .ref A_t_strength, .ref A_t_fails, .ref A_t_why, .ref A_t_driver, .ref A_t_place, .ref A_t_isDone, .int v4, .int v3, .long V_t_digested])), (A_t_text, .inl (cI, 60, .inl V_t_text)), (A_t_s, .inl (cI, 77, .inl f5))] H → va_D A [(A_t, .inr (5, [.int V_t_thrown, .ref A_t_s, .ref A_t_aside, .ref A_t_snapshot, .int V_t_isKept, .ref A_t_saved, .int V_t_savedMany, .ref A_t_text, .int V_t_length, .ref A_t_counts, .ref A_t_isCut, .ref A_t_strength, .ref A_t_fails, .ref A_t_why, .ref A_t_driver, .ref A_t_place, .ref A_t_isDone, .int v4, .int v3, .long V_t_digested])), (A_t_text, .inl (cI, 60, .inl V_t_text)), (A_t_s, .inl (cI, 77, .inl f5))] → va_S A s.heap H locs → ∀ ls : Array Slot, lv_has ls 5 [(3, .int v2), (2, .int v1), (0, .ref A_t), (1, .int x1)] → g_X5_reads_L1 V_t_length V_t_text x1 nf v1 v2 v3 v4 f5 = some (v15, v16, v17, f18) → W p l e rX5_reads s m args below meth c H locs 0 0 Q (F0 m 14 ls []) := by
    intro nf
    induction nf with
    | zero =>
      intro v1 v2 v3 v4 f5 hz_v2 H locs hP hD hS ls hl hg
      exact no_some hg
    | succ nf ih =>
      intro v1 v2 v3 v4 f5 hz_v2 H locs hP hD hS ls hl hg
      rw [g_X5_reads_L1] at hg
      refine lv_iload_n hx hb dX5_reads_14 rfl (lv_at hl 0 rfl) ?_
      refine lv_if_eq (tgt := 88) hx hb dX5_reads_15 (by decide) (fun hc => ?_) (fun hc => ?_)
      · replace hg := if_yes hg hc
        cases hg
        exact kx _ _ hP hD hS _ (lv_sub hl [1] rfl)
      · replace hg := if_no hg hc
        refine lv_iload_n hx hb dX5_reads_18 rfl (lv_at hl 1 rfl) ?_
        refine lv_aload_n hx hb dX5_reads_19 rfl (lv_at hl 2 rfl) ?_
        refine lv_iload_n hx hb dX5_reads_20 rfl (lv_at hl 3 rfl) ?_
        obtain ⟨v9, v6, v7, f8, hq, hg⟩ := b4_ex hg
        refine callWVz (As := [.int x1]) (rest := [.int v1]) (wr := []) S hK hP hD hS hA (c_X5_part l D cI cZ cB cJ A_t A_t_s A_t_aside A_t_snapshot A_t_saved A_t_text A_t_counts A_t_isCut A_t_strength A_t_fails A_t_why A_t_driver A_t_place A_t_isDone _ V_t_thrown V_t_isKept V_t_savedMany V_t_length v4 v3 V_t_digested V_t_text f5 x1 v9 v6 v7 f8 hq) [0, 1, 2] [] rfl rfl (by decide +kernel) (by decide +kernel) (by decide +kernel) (cwV 1 hts gX5_reads_X5_part rfl rfl rfl hd_X5_part ⟨Nat.le_of_ble_eq_true rfl, Nat.le_of_ble_eq_true rfl⟩) rfl rfl rfl hl.1 rfl (Nat.le_of_ble_eq_true rfl) dX5_reads_21 ⟨Nat.zero_le _, Nat.zero_le _⟩ (fun hz_v9 H locs hP hD hS => ?_)
        replace hP : va_P D vwCl [(A_t, .inr (5, [.int V_t_thrown, .ref A_t_s, .ref A_t_aside, .ref A_t_snapshot, .int V_t_isKept, .ref A_t_saved, .int V_t_savedMany, .ref A_t_text, .int V_t_length, .ref A_t_counts, .ref A_t_isCut, .ref A_t_strength, .ref A_t_fails, .ref A_t_why, .ref A_t_driver, .ref A_t_place, .ref A_t_isDone, .int v6, .int v7, .long V_t_digested])), (A_t_text, .inl (cI, 60, .inl V_t_text)), (A_t_s, .inl (cI, 77, .inl f8))] H := hP
        replace hD : va_D A [(A_t, .inr (5, [.int V_t_thrown, .ref A_t_s, .ref A_t_aside, .ref A_t_snapshot, .int V_t_isKept, .ref A_t_saved, .int V_t_savedMany, .ref A_t_text, .int V_t_length, .ref A_t_counts, .ref A_t_isCut, .ref A_t_strength, .ref A_t_fails, .ref A_t_why, .ref A_t_driver, .ref A_t_place, .ref A_t_isDone, .int v6, .int v7, .long V_t_digested])), (A_t_text, .inl (cI, 60, .inl V_t_text)), (A_t_s, .inl (cI, 77, .inl f8))] := hD
        have hJ1 : ∀ (v10 : Int32), bo v10 → ∀ (H : Heap) (locs : List Loc), va_P D vwCl [(A_t, .inr (5, [.int V_t_thrown, .ref A_t_s, .ref A_t_aside, .ref A_t_snapshot, .int V_t_isKept, .ref A_t_saved, .int V_t_savedMany, .ref A_t_text, .int V_t_length, .ref A_t_counts, .ref A_t_isCut, .ref A_t_strength, .ref A_t_fails, .ref A_t_why, .ref A_t_driver, .ref A_t_place, .ref A_t_isDone, .int v6, .int v7, .long V_t_digested])), (A_t_text, .inl (cI, 60, .inl V_t_text)), (A_t_s, .inl (cI, 77, .inl f8))] H → va_D A [(A_t, .inr (5, [.int V_t_thrown, .ref A_t_s, .ref A_t_aside, .ref A_t_snapshot, .int V_t_isKept, .ref A_t_saved, .int V_t_savedMany, .ref A_t_text, .int V_t_length, .ref A_t_counts, .ref A_t_isCut, .ref A_t_strength, .ref A_t_fails, .ref A_t_why, .ref A_t_driver, .ref A_t_place, .ref A_t_isDone, .int v6, .int v7, .long V_t_digested])), (A_t_text, .inl (cI, 60, .inl V_t_text)), (A_t_s, .inl (cI, 77, .inl f8))] → va_S A s.heap H locs → ∀ ls : Array Slot, lv_has ls 5 [(0, .ref A_t), (1, .int x1)] → g_X5_reads_J1 v7 V_t_length v6 v1 f8 V_t_text (g_X5_reads_L1 V_t_length V_t_text x1 nf) v10 = some (v15, v16, v17, f18) → W p l e rX5_reads s m args below meth c H locs 0 0 Q (F0 m 32 ls [.int v10, .int v1]) := by
          intro v10 hz_v10 H locs hP hD hS ls hl hg
          unfold g_X5_reads_J1 at hg
          refine lv_iadd hx hb dX5_reads_32 ?_
          refine lv_istore_n (lv' := [(2, .int (v1 + v10)), (0, .ref A_t), (1, .int x1)]) hx hb dX5_reads_33 rfl hl (by decide) rfl (fun ls hl => ?_)
          refine lv_aload_n hx hb dX5_reads_34 rfl (lv_at hl 1 rfl) ?_
          refine xget (ci := 5) (C := RX5) (T := TX5) (N := 20) (v := .int v7) hx hb hts in_X5_reads_X5 hown hK hP 0 rfl rfl 18 (by decide) wd_X5_reads_2 rfl dX5_reads_35 ?_
          have hJ2 : ∀ (v11 : Int32), bo v11 → ∀ (H : Heap) (locs : List Loc), va_P D vwCl [(A_t, .inr (5, [.int V_t_thrown, .ref A_t_s, .ref A_t_aside, .ref A_t_snapshot, .int V_t_isKept, .ref A_t_saved, .int V_t_savedMany, .ref A_t_text, .int V_t_length, .ref A_t_counts, .ref A_t_isCut, .ref A_t_strength, .ref A_t_fails, .ref A_t_why, .ref A_t_driver, .ref A_t_place, .ref A_t_isDone, .int v6, .int v7, .long V_t_digested])), (A_t_text, .inl (cI, 60, .inl V_t_text)), (A_t_s, .inl (cI, 77, .inl f8))] H → va_D A [(A_t, .inr (5, [.int V_t_thrown, .ref A_t_s, .ref A_t_aside, .ref A_t_snapshot, .int V_t_isKept, .ref A_t_saved, .int V_t_savedMany, .ref A_t_text, .int V_t_length, .ref A_t_counts, .ref A_t_isCut, .ref A_t_strength, .ref A_t_fails, .ref A_t_why, .ref A_t_driver, .ref A_t_place, .ref A_t_isDone, .int v6, .int v7, .long V_t_digested])), (A_t_text, .inl (cI, 60, .inl V_t_text)), (A_t_s, .inl (cI, 77, .inl f8))] → va_S A s.heap H locs → ∀ ls : Array Slot, lv_has ls 5 [(2, .int (v1 + v10)), (0, .ref A_t), (1, .int x1)] → g_X5_reads_J2 v1 v10 v7 v6 f8 V_t_length V_t_text (g_X5_reads_L1 V_t_length V_t_text x1 nf) v11 = some (v15, v16, v17, f18) → W p l e rX5_reads s m args below meth c H locs 0 0 Q (F0 m 57 ls [.int v11]) := by
            intro v11 hz_v11 H locs hP hD hS ls hl hg
            unfold g_X5_reads_J2 at hg
            refine lv_istore_n (lv' := [(3, .int v11), (2, .int (v1 + v10)), (0, .ref A_t), (1, .int x1)]) hx hb dX5_reads_57 rfl hl (by decide) rfl (fun ls hl => ?_)
            refine lv_iload_n hx hb dX5_reads_58 rfl (lv_at hl 0 rfl) ?_
            refine lv_if_eq (tgt := 14) hx hb dX5_reads_59 (by decide) (fun hc => ?_) (fun hc => ?_)
            · replace hg := if_yes hg hc
              exact ih _ _ _ _ _ hz_v11 _ _ hP hD hS _ (lv_sub hl [0, 1, 2, 3] rfl) hg
            · replace hg := if_no hg hc
              refine lv_aload_n hx hb dX5_reads_62 rfl (lv_at hl 2 rfl) ?_
              refine lv_bipush (v := 59) hx hb dX5_reads_63 (by decide) ?_
              refine lv_bipush (v := 59) hx hb dX5_reads_65 (by decide) ?_
              obtain ⟨v14, v12, v13, hq, hg⟩ := b3_ex hg
              refine callWV (As := [.int 59, .int 59]) (rest := []) (wr := [(A_t_s, .inl (cI, 77, .inl f8))]) S hK hP hD hS hA (c_X5_takes l D cI cZ cB cJ A_t A_t_s A_t_aside A_t_snapshot A_t_saved A_t_text A_t_counts A_t_isCut A_t_strength A_t_fails A_t_why A_t_driver A_t_place A_t_isDone _ V_t_thrown V_t_isKept V_t_savedMany V_t_length v6 v7 V_t_digested V_t_text 59 59 v14 v12 v13 hq) [0, 1] [2] rfl rfl (by decide +kernel) (by decide +kernel) (by decide +kernel) (cwV 2 hts gX5_reads_X5_takes rfl rfl rfl hd_X5_takes ⟨Nat.le_of_ble_eq_true rfl, Nat.le_of_ble_eq_true rfl⟩) rfl rfl rfl hl.1 rfl (Nat.le_of_ble_eq_true rfl) dX5_reads_67 ⟨Nat.zero_le _, Nat.zero_le _⟩ (fun H locs hP hD hS => ?_)
              replace hP : va_P D vwCl [(A_t_s, .inl (cI, 77, .inl f8)), (A_t, .inr (5, [.int V_t_thrown, .ref A_t_s, .ref A_t_aside, .ref A_t_snapshot, .int V_t_isKept, .ref A_t_saved, .int V_t_savedMany, .ref A_t_text, .int V_t_length, .ref A_t_counts, .ref A_t_isCut, .ref A_t_strength, .ref A_t_fails, .ref A_t_why, .ref A_t_driver, .ref A_t_place, .ref A_t_isDone, .int v12, .int v13, .long V_t_digested])), (A_t_text, .inl (cI, 60, .inl V_t_text))] H := hP
              replace hD : va_D A [(A_t_s, .inl (cI, 77, .inl f8)), (A_t, .inr (5, [.int V_t_thrown, .ref A_t_s, .ref A_t_aside, .ref A_t_snapshot, .int V_t_isKept, .ref A_t_saved, .int V_t_savedMany, .ref A_t_text, .int V_t_length, .ref A_t_counts, .ref A_t_isCut, .ref A_t_strength, .ref A_t_fails, .ref A_t_why, .ref A_t_driver, .ref A_t_place, .ref A_t_isDone, .int v12, .int v13, .long V_t_digested])), (A_t_text, .inl (cI, 60, .inl V_t_text))] := hD
              refine lv_istore (lv' := [(4, .int v14), (3, .int v11), (2, .int (v1 + v10)), (0, .ref A_t), (1, .int x1)]) hx hb dX5_reads_70 hl (by decide) rfl (fun ls hl => ?_)
              refine lv_aload_n hx hb dX5_reads_72 rfl (lv_at hl 3 rfl) ?_
              refine xget (ci := 5) (C := RX5) (T := TX5) (N := 20) (v := .int v13) hx hb hts in_X5_reads_X5 hown hK hP 1 rfl rfl 18 (by decide) wd_X5_reads_2 rfl dX5_reads_73 ?_
              refine lv_if_ne (tgt := 83) hx hb dX5_reads_76 (by decide) (fun hc => ?_) (fun hc => ?_)
              · replace hg := if_no hg hc
                refine lv_iconst (v := 0) hx hb dX5_reads_83 (by decide) ?_
                refine lv_istore_n (lv' := [(3, .int 0), (4, .int v14), (2, .int (v1 + v10)), (0, .ref A_t), (1, .int x1)]) hx hb dX5_reads_84 rfl hl (by decide) rfl (fun ls hl => ?_)
                refine lv_goto (tgt := 14) hx hb dX5_reads_85 (by decide) ?_
                exact ih _ _ _ _ _ bo_0 _ _ (hP.sub [1, 2, 0] rfl) (hD.sub [1, 2, 0] (by decide) rfl) hS _ (lv_sub hl [0, 2, 3, 4] rfl) hg
              · replace hg := if_yes hg hc
                refine lv_iconst (v := 1) hx hb dX5_reads_79 (by decide) ?_
                refine lv_goto (tgt := 84) hx hb dX5_reads_80 (by decide) ?_
                refine lv_istore_n (lv' := [(3, .int 1), (4, .int v14), (2, .int (v1 + v10)), (0, .ref A_t), (1, .int x1)]) hx hb dX5_reads_84 rfl hl (by decide) rfl (fun ls hl => ?_)
                refine lv_goto (tgt := 14) hx hb dX5_reads_85 (by decide) ?_
                exact ih _ _ _ _ _ bo_1 _ _ (hP.sub [1, 2, 0] rfl) (hD.sub [1, 2, 0] (by decide) rfl) hS _ (lv_sub hl [0, 2, 3, 4] rfl) hg
          refine lv_if_ne (tgt := 56) hx hb dX5_reads_38 (by decide) (fun hc => ?_) (fun hc => ?_)
          · replace hg := if_no hg hc
            refine lv_iconst (v := 0) hx hb dX5_reads_56 (by decide) ?_
            exact hJ2 _ bo_0 _ _ hP hD hS _ (lv_sub hl [0, 1, 2] rfl) hg
          · replace hg := if_yes hg hc
            refine lv_aload_n hx hb dX5_reads_41 rfl (lv_at hl 1 rfl) ?_
            refine xget (ci := 5) (C := RX5) (T := TX5) (N := 20) (v := .int v6) hx hb hts in_X5_reads_X5 hown hK hP 0 rfl rfl 17 (by decide) wd_X5_reads_1 rfl dX5_reads_42 ?_
            refine lv_aload_n hx hb dX5_reads_45 rfl (lv_at hl 1 rfl) ?_
            refine xget (ci := 5) (C := RX5) (T := TX5) (N := 20) (v := .int V_t_length) hx hb hts in_X5_reads_X5 hown hK hP 0 rfl rfl 8 (by decide) wd_X5_reads_3 rfl dX5_reads_46 ?_
            refine lv_icmp_ge (tgt := 56) hx hb dX5_reads_49 (by decide) (fun hc => ?_) (fun hc => ?_)
            · replace hg := if_yes hg hc
              refine lv_iconst (v := 0) hx hb dX5_reads_56 (by decide) ?_
              exact hJ2 _ bo_0 _ _ hP hD hS _ (lv_sub hl [0, 1, 2] rfl) hg
            · replace hg := if_no hg hc
              refine lv_iconst (v := 1) hx hb dX5_reads_52 (by decide) ?_
              refine lv_goto (tgt := 57) hx hb dX5_reads_53 (by decide) ?_
              exact hJ2 _ bo_1 _ _ hP hD hS _ (lv_sub hl [0, 1, 2] rfl) hg
        refine lv_if_eq (tgt := 31) hx hb dX5_reads_24 (by decide) (fun hc => ?_) (fun hc => ?_)
        · replace hg := if_yes hg hc
          refine lv_iconst (v := 0) hx hb dX5_reads_31 (by decide) ?_
          exact hJ1 _ bo_0 _ _ hP hD hS _ (lv_sub hl [2, 3] rfl) hg
        · replace hg := if_no hg hc
          refine lv_iconst (v := 1) hx hb dX5_reads_27 (by decide) ?_
          refine lv_goto (tgt := 32) hx hb dX5_reads_28 (by decide) ?_
          exact hJ1 _ bo_1 _ _ hP hD hS _ (lv_sub hl [2, 3] rfl) hg
  exact L FU _ _ _ _ _ bo_1 _ _ hP hD hS _ (lv_sub hl [0, 1, 2, 3] rfl) hL
theorem hd_X5_firstError : yX5_firstError.cls = RX5 ∧ yX5_firstError.cls ≠ "java/lang/invoke/MethodHandle" ∧ yX5_firstError.cls ≠ "java/lang/invoke/VarHandle" ∧ (parseMethodDescriptor yX5_firstError.desc).map (fun d => d.parameters.length) = some 0 := by decide +kernel
theorem in_X5_firstError_X5 : ∀ w ∈ u_ws RX5 TX5 20, w ∈ wsX5_firstError := fun _ h => List.mem_cons_of_mem _ (List.mem_append_right _ h)
theorem wd_X5_firstError_1 : Cond.fieldLink RX5 50 "FogOrdersModel" "thrown" "I" ∈ wsX5_firstError := List.mem_of_getElem? (i := 1) rfl
theorem wd_X5_firstError_2 : Cond.fieldLink RX5 172 "FogOrdersModel" "isWrong" "Z" ∈ wsX5_firstError := List.mem_of_getElem? (i := 2) rfl
theorem wd_X5_firstError_4 : Cond.fieldLink RX5 169 "FogOrdersModel" "length" "I" ∈ wsX5_firstError := List.mem_of_getElem? (i := 4) rfl
theorem wd_X5_firstError_3 : Cond.fieldLink RX5 176 "FogOrdersModel" "position" "I" ∈ wsX5_firstError := List.mem_of_getElem? (i := 3) rfl
abbrev rX5_firstError : Room := { frames := 5, cells := 0, slots := 0, locals := 117 }
set_option maxHeartbeats 4000000 in
set_option maxRecDepth 100000 in
theorem c_X5_firstError (l : Launch) (D : va_G) (cI cZ cB cJ : ClassId) (A_t : Nat) (A_t_s : Nat) (A_t_aside : Nat) (A_t_snapshot : Nat) (A_t_saved : Nat) (A_t_text : Nat) (A_t_counts : Nat) (A_t_isCut : Nat) (A_t_strength : Nat) (A_t_fails : Nat) (A_t_why : Nat) (A_t_driver : Nat) (A_t_place : Nat) (A_t_isDone : Nat) (sz : Nat) (V_t_thrown : Int32) (V_t_isKept : Int32) (V_t_savedMany : Int32) (V_t_length : Int32) (V_t_position : Int32) (V_t_isWrong : Int32) (V_t_digested : Int64) (V_t_text : Nat → Int32) (V_t_s : Nat → Int32) (r0 : Int32) (w1 : Int32) (w2 : Int32) (w3 : Int32) (w4 : Nat → Int32) (hg : g_X5_firstError V_t_thrown V_t_length V_t_position V_t_isWrong V_t_text V_t_s = some (r0, w1, w2, w3, w4)) : Met l yX5_firstError wsX5_firstError rX5_firstError (PcW D cI cZ cB cJ sz [(A_t, .inr (5, [.int V_t_thrown, .ref A_t_s, .ref A_t_aside, .ref A_t_snapshot, .int V_t_isKept, .ref A_t_saved, .int V_t_savedMany, .ref A_t_text, .int V_t_length, .ref A_t_counts, .ref A_t_isCut, .ref A_t_strength, .ref A_t_fails, .ref A_t_why, .ref A_t_driver, .ref A_t_place, .ref A_t_isDone, .int V_t_position, .int V_t_isWrong, .long V_t_digested])), (A_t_text, .inl (cI, 60, .inl V_t_text)), (A_t_s, .inl (cI, 77, .inl V_t_s))] [.ref A_t]) (QWi D cI cZ cB cJ sz [(A_t, .inr (5, [.int V_t_thrown, .ref A_t_s, .ref A_t_aside, .ref A_t_snapshot, .int V_t_isKept, .ref A_t_saved, .int V_t_savedMany, .ref A_t_text, .int V_t_length, .ref A_t_counts, .ref A_t_isCut, .ref A_t_strength, .ref A_t_fails, .ref A_t_why, .ref A_t_driver, .ref A_t_place, .ref A_t_isDone, .int V_t_position, .int V_t_isWrong, .long V_t_digested])), (A_t_text, .inl (cI, 60, .inl V_t_text)), (A_t_s, .inl (cI, 77, .inl V_t_s))] [(A_t, .inr (5, [.int w1, .ref A_t_s, .ref A_t_aside, .ref A_t_snapshot, .int V_t_isKept, .ref A_t_saved, .int V_t_savedMany, .ref A_t_text, .int V_t_length, .ref A_t_counts, .ref A_t_isCut, .ref A_t_strength, .ref A_t_fails, .ref A_t_why, .ref A_t_driver, .ref A_t_place, .ref A_t_isDone, .int w2, .int w3, .long V_t_digested])), (A_t_text, .inl (cI, 60, .inl V_t_text)), (A_t_s, .inl (cI, 77, .inl w4))] r0) 0 0 (va_A [(A_t, .inr (5, [.int V_t_thrown, .ref A_t_s, .ref A_t_aside, .ref A_t_snapshot, .int V_t_isKept, .ref A_t_saved, .int V_t_savedMany, .ref A_t_text, .int V_t_length, .ref A_t_counts, .ref A_t_isCut, .ref A_t_strength, .ref A_t_fails, .ref A_t_why, .ref A_t_driver, .ref A_t_place, .ref A_t_isDone, .int V_t_position, .int V_t_isWrong, .long V_t_digested])), (A_t_text, .inl (cI, 60, .inl V_t_text)), (A_t_s, .inl (cI, 77, .inl V_t_s))] sz) := by
  refine bodyWi (cc := cX5_firstError) (maxL := 2) (lv := [(0, .ref A_t)]) (by decide) rfl (Nat.le_of_ble_eq_true rfl) rfl ?_
  intro p e s m args below meth c Q hx hb hml hown hts A hP hK hD hA hS fin ls hl
  replace hown : s.vm.findClass RX5 = some m.cls := hown
  have S : CallFix p m c cX5_firstError 2 s args wsX5_firstError RX5 := ⟨hx, hb, hml, hown, hts⟩
  unfold g_X5_firstError at hg
  refine lv_aload_n hx hb dX5_firstError_0 rfl (lv_at hl 0 rfl) ?_
  refine lv_iconst (v := 0) hx hb dX5_firstError_1 (by decide) ?_
  refine xput (ci := 5) (C := RX5) (T := TX5) (N := 20) (ty := .int) (v := .int 0) (ws2 := [(A_t, .inr (5, [.int 0, .ref A_t_s, .ref A_t_aside, .ref A_t_snapshot, .int V_t_isKept, .ref A_t_saved, .int V_t_savedMany, .ref A_t_text, .int V_t_length, .ref A_t_counts, .ref A_t_isCut, .ref A_t_strength, .ref A_t_fails, .ref A_t_why, .ref A_t_driver, .ref A_t_place, .ref A_t_isDone, .int V_t_position, .int V_t_isWrong, .long V_t_digested])), (A_t_text, .inl (cI, 60, .inl V_t_text)), (A_t_s, .inl (cI, 77, .inl V_t_s))]) hx hb hts in_X5_firstError_X5 tyX5 tyX5_ok nmX5 hown hK hP hD hS 0 rfl rfl 0 (by decide) wd_X5_firstError_1 rfl (by decide +kernel) rfl rfl (Nat.le_of_ble_eq_true rfl) rfl dX5_firstError_2 (fun H locs hP hD hS => ?_)
  refine lv_aload_n hx hb dX5_firstError_5 rfl (lv_at hl 0 rfl) ?_
  refine lv_iconst (v := 0) hx hb dX5_firstError_6 (by decide) ?_
  obtain ⟨v4, v1, v2, f3, hq, hg⟩ := b4_ex hg
  refine callWV (As := [.int 0]) (rest := []) (wr := []) S hK hP hD hS hA (c_X5_reads l D cI cZ cB cJ A_t A_t_s A_t_aside A_t_snapshot A_t_saved A_t_text A_t_counts A_t_isCut A_t_strength A_t_fails A_t_why A_t_driver A_t_place A_t_isDone _ 0 V_t_isKept V_t_savedMany V_t_length V_t_position V_t_isWrong V_t_digested V_t_text V_t_s 0 v4 v1 v2 f3 hq) [0, 1, 2] [] rfl rfl (by decide +kernel) (by decide +kernel) (by decide +kernel) (cwV 1 hts gX5_firstError_X5_reads rfl rfl rfl hd_X5_reads ⟨Nat.le_of_ble_eq_true rfl, Nat.le_of_ble_eq_true rfl⟩) rfl rfl rfl hl.1 rfl (Nat.le_of_ble_eq_true rfl) dX5_firstError_7 ⟨Nat.zero_le _, Nat.zero_le _⟩ (fun H locs hP hD hS => ?_)
  replace hP : va_P D vwCl [(A_t, .inr (5, [.int 0, .ref A_t_s, .ref A_t_aside, .ref A_t_snapshot, .int V_t_isKept, .ref A_t_saved, .int V_t_savedMany, .ref A_t_text, .int V_t_length, .ref A_t_counts, .ref A_t_isCut, .ref A_t_strength, .ref A_t_fails, .ref A_t_why, .ref A_t_driver, .ref A_t_place, .ref A_t_isDone, .int v1, .int v2, .long V_t_digested])), (A_t_text, .inl (cI, 60, .inl V_t_text)), (A_t_s, .inl (cI, 77, .inl f3))] H := hP
  replace hD : va_D A [(A_t, .inr (5, [.int 0, .ref A_t_s, .ref A_t_aside, .ref A_t_snapshot, .int V_t_isKept, .ref A_t_saved, .int V_t_savedMany, .ref A_t_text, .int V_t_length, .ref A_t_counts, .ref A_t_isCut, .ref A_t_strength, .ref A_t_fails, .ref A_t_why, .ref A_t_driver, .ref A_t_place, .ref A_t_isDone, .int v1, .int v2, .long V_t_digested])), (A_t_text, .inl (cI, 60, .inl V_t_text)), (A_t_s, .inl (cI, 77, .inl f3))] := hD
  refine lv_istore_n (lv' := [(1, .int v4), (0, .ref A_t)]) hx hb dX5_firstError_10 rfl hl (by decide) rfl (fun ls hl => ?_)
  refine lv_aload_n hx hb dX5_firstError_11 rfl (lv_at hl 1 rfl) ?_
  refine xget (ci := 5) (C := RX5) (T := TX5) (N := 20) (v := .int v2) hx hb hts in_X5_firstError_X5 hown hK hP 0 rfl rfl 18 (by decide) wd_X5_firstError_2 rfl dX5_firstError_12 ?_
  refine lv_if_eq (tgt := 25) hx hb dX5_firstError_15 (by decide) (fun hc => ?_) (fun hc => ?_)
  · replace hg := if_yes hg hc
    refine lv_aload_n hx hb dX5_firstError_25 rfl (lv_at hl 1 rfl) ?_
    refine xget (ci := 5) (C := RX5) (T := TX5) (N := 20) (v := .int V_t_length) hx hb hts in_X5_firstError_X5 hown hK hP 0 rfl rfl 8 (by decide) wd_X5_firstError_4 rfl dX5_firstError_26 ?_
    cases hg
    exact fin _ _ _ _ dX5_firstError_29 hP hD hS
  · replace hg := if_no hg hc
    refine lv_aload_n hx hb dX5_firstError_18 rfl (lv_at hl 1 rfl) ?_
    refine xget (ci := 5) (C := RX5) (T := TX5) (N := 20) (v := .int v1) hx hb hts in_X5_firstError_X5 hown hK hP 0 rfl rfl 17 (by decide) wd_X5_firstError_3 rfl dX5_firstError_19 ?_
    refine lv_goto (tgt := 29) hx hb dX5_firstError_22 (by decide) ?_
    cases hg
    exact fin _ _ _ _ dX5_firstError_29 hP hD hS
theorem hd_X5_orders : yX5_orders.cls = RX5 ∧ yX5_orders.cls ≠ "java/lang/invoke/MethodHandle" ∧ yX5_orders.cls ≠ "java/lang/invoke/VarHandle" ∧ (parseMethodDescriptor yX5_orders.desc).map (fun d => d.parameters.length) = some 0 := by decide +kernel
theorem in_X5_orders_X5 : ∀ w ∈ u_ws RX5 TX5 20, w ∈ wsX5_orders := fun _ h => List.mem_cons_of_mem _ (List.mem_append_right _ h)
theorem wd_X5_orders_1 : Cond.fieldLink RX5 172 "FogOrdersModel" "isWrong" "Z" ∈ wsX5_orders := List.mem_of_getElem? (i := 1) rfl
theorem wd_X5_orders_2 : Cond.fieldLink RX5 169 "FogOrdersModel" "length" "I" ∈ wsX5_orders := List.mem_of_getElem? (i := 2) rfl
abbrev rX5_orders : Room := { frames := 5, cells := 0, slots := 0, locals := 117 }
set_option maxHeartbeats 4000000 in
set_option maxRecDepth 100000 in
theorem c_X5_orders (l : Launch) (D : va_G) (cI cZ cB cJ : ClassId) (A_t : Nat) (A_t_s : Nat) (A_t_aside : Nat) (A_t_snapshot : Nat) (A_t_saved : Nat) (A_t_text : Nat) (A_t_counts : Nat) (A_t_isCut : Nat) (A_t_strength : Nat) (A_t_fails : Nat) (A_t_why : Nat) (A_t_driver : Nat) (A_t_place : Nat) (A_t_isDone : Nat) (sz : Nat) (V_t_thrown : Int32) (V_t_isKept : Int32) (V_t_savedMany : Int32) (V_t_length : Int32) (V_t_position : Int32) (V_t_isWrong : Int32) (V_t_digested : Int64) (V_t_text : Nat → Int32) (V_t_s : Nat → Int32) (V_t_saved : Nat → Int32) (r0 : Int32) (w1 : Int32) (w2 : Int32) (w3 : Int32) (w4 : Int32) (w5 : Int32) (w6 : Nat → Int32) (w7 : Nat → Int32) (hg : g_X5_orders V_t_thrown V_t_savedMany V_t_length V_t_position V_t_isWrong V_t_text V_t_s V_t_saved = some (r0, w1, w2, w3, w4, w5, w6, w7)) : Met l yX5_orders wsX5_orders rX5_orders (PcW D cI cZ cB cJ sz [(A_t, .inr (5, [.int V_t_thrown, .ref A_t_s, .ref A_t_aside, .ref A_t_snapshot, .int V_t_isKept, .ref A_t_saved, .int V_t_savedMany, .ref A_t_text, .int V_t_length, .ref A_t_counts, .ref A_t_isCut, .ref A_t_strength, .ref A_t_fails, .ref A_t_why, .ref A_t_driver, .ref A_t_place, .ref A_t_isDone, .int V_t_position, .int V_t_isWrong, .long V_t_digested])), (A_t_text, .inl (cI, 60, .inl V_t_text)), (A_t_s, .inl (cI, 77, .inl V_t_s)), (A_t_saved, .inl (cI, 462, .inl V_t_saved))] [.ref A_t]) (QWi D cI cZ cB cJ sz [(A_t, .inr (5, [.int V_t_thrown, .ref A_t_s, .ref A_t_aside, .ref A_t_snapshot, .int V_t_isKept, .ref A_t_saved, .int V_t_savedMany, .ref A_t_text, .int V_t_length, .ref A_t_counts, .ref A_t_isCut, .ref A_t_strength, .ref A_t_fails, .ref A_t_why, .ref A_t_driver, .ref A_t_place, .ref A_t_isDone, .int V_t_position, .int V_t_isWrong, .long V_t_digested])), (A_t_text, .inl (cI, 60, .inl V_t_text)), (A_t_s, .inl (cI, 77, .inl V_t_s)), (A_t_saved, .inl (cI, 462, .inl V_t_saved))] [(A_t, .inr (5, [.int w1, .ref A_t_s, .ref A_t_aside, .ref A_t_snapshot, .int V_t_isKept, .ref A_t_saved, .int w2, .ref A_t_text, .int w3, .ref A_t_counts, .ref A_t_isCut, .ref A_t_strength, .ref A_t_fails, .ref A_t_why, .ref A_t_driver, .ref A_t_place, .ref A_t_isDone, .int w4, .int w5, .long V_t_digested])), (A_t_text, .inl (cI, 60, .inl V_t_text)), (A_t_s, .inl (cI, 77, .inl w6)), (A_t_saved, .inl (cI, 462, .inl w7))] r0) 0 0 (va_A [(A_t, .inr (5, [.int V_t_thrown, .ref A_t_s, .ref A_t_aside, .ref A_t_snapshot, .int V_t_isKept, .ref A_t_saved, .int V_t_savedMany, .ref A_t_text, .int V_t_length, .ref A_t_counts, .ref A_t_isCut, .ref A_t_strength, .ref A_t_fails, .ref A_t_why, .ref A_t_driver, .ref A_t_place, .ref A_t_isDone, .int V_t_position, .int V_t_isWrong, .long V_t_digested])), (A_t_text, .inl (cI, 60, .inl V_t_text)), (A_t_s, .inl (cI, 77, .inl V_t_s)), (A_t_saved, .inl (cI, 462, .inl V_t_saved))] sz) := by
  refine bodyWi (cc := cX5_orders) (maxL := 3) (lv := [(0, .ref A_t)]) (by decide) rfl (Nat.le_of_ble_eq_true rfl) rfl ?_
  intro p e s m args below meth c Q hx hb hml hown hts A hP hK hD hA hS fin ls hl
  replace hown : s.vm.findClass RX5 = some m.cls := hown
  have S : CallFix p m c cX5_orders 3 s args wsX5_orders RX5 := ⟨hx, hb, hml, hown, hts⟩
  unfold g_X5_orders at hg
  refine lv_aload_n hx hb dX5_orders_0 rfl (lv_at hl 0 rfl) ?_
  refine lv_iconst (v := 0) hx hb dX5_orders_1 (by decide) ?_
  obtain ⟨v4, v1, v2, f3, hq, hg⟩ := b4_ex hg
  refine callWV (As := [.int 0]) (rest := []) (wr := [(A_t_saved, .inl (cI, 462, .inl V_t_saved))]) S hK hP hD hS hA (c_X5_reads l D cI cZ cB cJ A_t A_t_s A_t_aside A_t_snapshot A_t_saved A_t_text A_t_counts A_t_isCut A_t_strength A_t_fails A_t_why A_t_driver A_t_place A_t_isDone _ V_t_thrown V_t_isKept V_t_savedMany V_t_length V_t_position V_t_isWrong V_t_digested V_t_text V_t_s 0 v4 v1 v2 f3 hq) [0, 1, 2] [3] rfl rfl (by decide +kernel) (by decide +kernel) (by decide +kernel) (cwV 1 hts gX5_orders_X5_reads rfl rfl rfl hd_X5_reads ⟨Nat.le_of_ble_eq_true rfl, Nat.le_of_ble_eq_true rfl⟩) rfl rfl rfl hl.1 rfl (Nat.le_of_ble_eq_true rfl) dX5_orders_2 ⟨Nat.zero_le _, Nat.zero_le _⟩ (fun H locs hP hD hS => ?_)
  replace hP : va_P D vwCl [(A_t_saved, .inl (cI, 462, .inl V_t_saved)), (A_t, .inr (5, [.int V_t_thrown, .ref A_t_s, .ref A_t_aside, .ref A_t_snapshot, .int V_t_isKept, .ref A_t_saved, .int V_t_savedMany, .ref A_t_text, .int V_t_length, .ref A_t_counts, .ref A_t_isCut, .ref A_t_strength, .ref A_t_fails, .ref A_t_why, .ref A_t_driver, .ref A_t_place, .ref A_t_isDone, .int v1, .int v2, .long V_t_digested])), (A_t_text, .inl (cI, 60, .inl V_t_text)), (A_t_s, .inl (cI, 77, .inl f3))] H := hP
  replace hD : va_D A [(A_t_saved, .inl (cI, 462, .inl V_t_saved)), (A_t, .inr (5, [.int V_t_thrown, .ref A_t_s, .ref A_t_aside, .ref A_t_snapshot, .int V_t_isKept, .ref A_t_saved, .int V_t_savedMany, .ref A_t_text, .int V_t_length, .ref A_t_counts, .ref A_t_isCut, .ref A_t_strength, .ref A_t_fails, .ref A_t_why, .ref A_t_driver, .ref A_t_place, .ref A_t_isDone, .int v1, .int v2, .long V_t_digested])), (A_t_text, .inl (cI, 60, .inl V_t_text)), (A_t_s, .inl (cI, 77, .inl f3))] := hD
  refine lv_istore_n (lv' := [(1, .int v4), (0, .ref A_t)]) hx hb dX5_orders_5 rfl hl (by decide) rfl (fun ls hl => ?_)
  refine lv_aload_n hx hb dX5_orders_6 rfl (lv_at hl 1 rfl) ?_
  refine lv_aload_n hx hb dX5_orders_7 rfl (lv_at hl 1 rfl) ?_
  refine xget (ci := 5) (C := RX5) (T := TX5) (N := 20) (v := .int v2) hx hb hts in_X5_orders_X5 hown hK hP 1 rfl rfl 18 (by decide) wd_X5_orders_1 rfl dX5_orders_8 ?_
  have hJ1 : ∀ (v5 : Int32), bo v5 → ∀ (H : Heap) (locs : List Loc), va_P D vwCl [(A_t_saved, .inl (cI, 462, .inl V_t_saved)), (A_t, .inr (5, [.int V_t_thrown, .ref A_t_s, .ref A_t_aside, .ref A_t_snapshot, .int V_t_isKept, .ref A_t_saved, .int V_t_savedMany, .ref A_t_text, .int V_t_length, .ref A_t_counts, .ref A_t_isCut, .ref A_t_strength, .ref A_t_fails, .ref A_t_why, .ref A_t_driver, .ref A_t_place, .ref A_t_isDone, .int v1, .int v2, .long V_t_digested])), (A_t_text, .inl (cI, 60, .inl V_t_text)), (A_t_s, .inl (cI, 77, .inl f3))] H → va_D A [(A_t_saved, .inl (cI, 462, .inl V_t_saved)), (A_t, .inr (5, [.int V_t_thrown, .ref A_t_s, .ref A_t_aside, .ref A_t_snapshot, .int V_t_isKept, .ref A_t_saved, .int V_t_savedMany, .ref A_t_text, .int V_t_length, .ref A_t_counts, .ref A_t_isCut, .ref A_t_strength, .ref A_t_fails, .ref A_t_why, .ref A_t_driver, .ref A_t_place, .ref A_t_isDone, .int v1, .int v2, .long V_t_digested])), (A_t_text, .inl (cI, 60, .inl V_t_text)), (A_t_s, .inl (cI, 77, .inl f3))] → va_S A s.heap H locs → ∀ ls : Array Slot, lv_has ls 3 [(0, .ref A_t)] → g_X5_orders_J1 V_t_thrown V_t_savedMany V_t_length v1 v2 f3 V_t_saved V_t_text v5 = some (r0, w1, w2, w3, w4, w5, w6, w7) → W p l e rX5_orders s m args below meth c H locs 0 0 Q (F0 m 19 ls [.int v5, .ref A_t]) := by
    intro v5 hz_v5 H locs hP hD hS ls hl hg
    unfold g_X5_orders_J1 at hg
    obtain ⟨v7, v6, hq, hg⟩ := b2_ex hg
    refine callWVz (As := [.int v5]) (rest := []) (wr := [(A_t_saved, .inl (cI, 462, .inl V_t_saved)), (A_t_text, .inl (cI, 60, .inl V_t_text)), (A_t_s, .inl (cI, 77, .inl f3))]) S hK hP hD hS hA (c_X5_holds l D cI cZ cB cJ A_t A_t_s A_t_aside A_t_snapshot A_t_saved A_t_text A_t_counts A_t_isCut A_t_strength A_t_fails A_t_why A_t_driver A_t_place A_t_isDone _ V_t_thrown V_t_isKept V_t_savedMany V_t_length v1 v2 V_t_digested v5 v7 v6 hq) [1] [0, 2, 3] rfl rfl (by decide +kernel) (by decide +kernel) (by decide +kernel) (cwV 1 hts gX5_orders_X5_holds rfl rfl rfl hd_X5_holds ⟨Nat.le_of_ble_eq_true rfl, Nat.le_of_ble_eq_true rfl⟩) rfl rfl rfl hl.1 rfl (Nat.le_of_ble_eq_true rfl) dX5_orders_19 ⟨Nat.zero_le _, Nat.zero_le _⟩ (fun hz_v7 H locs hP hD hS => ?_)
    replace hP : va_P D vwCl [(A_t_saved, .inl (cI, 462, .inl V_t_saved)), (A_t_text, .inl (cI, 60, .inl V_t_text)), (A_t_s, .inl (cI, 77, .inl f3)), (A_t, .inr (5, [.int v6, .ref A_t_s, .ref A_t_aside, .ref A_t_snapshot, .int V_t_isKept, .ref A_t_saved, .int V_t_savedMany, .ref A_t_text, .int V_t_length, .ref A_t_counts, .ref A_t_isCut, .ref A_t_strength, .ref A_t_fails, .ref A_t_why, .ref A_t_driver, .ref A_t_place, .ref A_t_isDone, .int v1, .int v2, .long V_t_digested]))] H := hP
    replace hD : va_D A [(A_t_saved, .inl (cI, 462, .inl V_t_saved)), (A_t_text, .inl (cI, 60, .inl V_t_text)), (A_t_s, .inl (cI, 77, .inl f3)), (A_t, .inr (5, [.int v6, .ref A_t_s, .ref A_t_aside, .ref A_t_snapshot, .int V_t_isKept, .ref A_t_saved, .int V_t_savedMany, .ref A_t_text, .int V_t_length, .ref A_t_counts, .ref A_t_isCut, .ref A_t_strength, .ref A_t_fails, .ref A_t_why, .ref A_t_driver, .ref A_t_place, .ref A_t_isDone, .int v1, .int v2, .long V_t_digested]))] := hD
    refine lv_if_ne (tgt := 27) hx hb dX5_orders_22 (by decide) (fun hc => ?_) (fun hc => ?_)
    · replace hg := if_no hg hc
      refine lv_aload_n hx hb dX5_orders_27 rfl (lv_at hl 0 rfl) ?_
      obtain ⟨v8, f9, hq, hg⟩ := b2_ex hg
      refine callWVv (As := []) (rest := []) (wr := [(A_t_text, .inl (cI, 60, .inl V_t_text))]) S hK hP hD hS hA (c_X5_save l D cI cZ cB cJ A_t A_t_s A_t_aside A_t_snapshot A_t_saved A_t_text A_t_counts A_t_isCut A_t_strength A_t_fails A_t_why A_t_driver A_t_place A_t_isDone _ v6 V_t_isKept V_t_savedMany V_t_length v1 v2 V_t_digested f3 V_t_saved v8 f9 hq) [3, 2, 0] [1] rfl rfl (by decide +kernel) (by decide +kernel) (by decide +kernel) (cwV 0 hts gX5_orders_X5_save rfl rfl rfl hd_X5_save ⟨Nat.le_of_ble_eq_true rfl, Nat.le_of_ble_eq_true rfl⟩) rfl rfl rfl hl.1 rfl (Nat.le_of_ble_eq_true rfl) dX5_orders_28 ⟨Nat.zero_le _, Nat.zero_le _⟩ (fun H locs hP hD hS => ?_)
      replace hP : va_P D vwCl [(A_t_text, .inl (cI, 60, .inl V_t_text)), (A_t, .inr (5, [.int v6, .ref A_t_s, .ref A_t_aside, .ref A_t_snapshot, .int V_t_isKept, .ref A_t_saved, .int v8, .ref A_t_text, .int V_t_length, .ref A_t_counts, .ref A_t_isCut, .ref A_t_strength, .ref A_t_fails, .ref A_t_why, .ref A_t_driver, .ref A_t_place, .ref A_t_isDone, .int v1, .int v2, .long V_t_digested])), (A_t_s, .inl (cI, 77, .inl f3)), (A_t_saved, .inl (cI, 462, .inl f9))] H := hP
      replace hD : va_D A [(A_t_text, .inl (cI, 60, .inl V_t_text)), (A_t, .inr (5, [.int v6, .ref A_t_s, .ref A_t_aside, .ref A_t_snapshot, .int V_t_isKept, .ref A_t_saved, .int v8, .ref A_t_text, .int V_t_length, .ref A_t_counts, .ref A_t_isCut, .ref A_t_strength, .ref A_t_fails, .ref A_t_why, .ref A_t_driver, .ref A_t_place, .ref A_t_isDone, .int v1, .int v2, .long V_t_digested])), (A_t_s, .inl (cI, 77, .inl f3)), (A_t_saved, .inl (cI, 462, .inl f9))] := hD
      refine lv_aload_n hx hb dX5_orders_31 rfl (lv_at hl 0 rfl) ?_
      refine lv_iconst (v := 1) hx hb dX5_orders_32 (by decide) ?_
      obtain ⟨v13, v10, v11, f12, hq, hg⟩ := b4_ex hg
      refine callWV (As := [.int 1]) (rest := []) (wr := [(A_t_saved, .inl (cI, 462, .inl f9))]) S hK hP hD hS hA (c_X5_reads l D cI cZ cB cJ A_t A_t_s A_t_aside A_t_snapshot A_t_saved A_t_text A_t_counts A_t_isCut A_t_strength A_t_fails A_t_why A_t_driver A_t_place A_t_isDone _ v6 V_t_isKept v8 V_t_length v1 v2 V_t_digested V_t_text f3 1 v13 v10 v11 f12 hq) [1, 0, 2] [3] rfl rfl (by decide +kernel) (by decide +kernel) (by decide +kernel) (cwV 1 hts gX5_orders_X5_reads rfl rfl rfl hd_X5_reads ⟨Nat.le_of_ble_eq_true rfl, Nat.le_of_ble_eq_true rfl⟩) rfl rfl rfl hl.1 rfl (Nat.le_of_ble_eq_true rfl) dX5_orders_33 ⟨Nat.zero_le _, Nat.zero_le _⟩ (fun H locs hP hD hS => ?_)
      replace hP : va_P D vwCl [(A_t_saved, .inl (cI, 462, .inl f9)), (A_t, .inr (5, [.int v6, .ref A_t_s, .ref A_t_aside, .ref A_t_snapshot, .int V_t_isKept, .ref A_t_saved, .int v8, .ref A_t_text, .int V_t_length, .ref A_t_counts, .ref A_t_isCut, .ref A_t_strength, .ref A_t_fails, .ref A_t_why, .ref A_t_driver, .ref A_t_place, .ref A_t_isDone, .int v10, .int v11, .long V_t_digested])), (A_t_text, .inl (cI, 60, .inl V_t_text)), (A_t_s, .inl (cI, 77, .inl f12))] H := hP
      replace hD : va_D A [(A_t_saved, .inl (cI, 462, .inl f9)), (A_t, .inr (5, [.int v6, .ref A_t_s, .ref A_t_aside, .ref A_t_snapshot, .int V_t_isKept, .ref A_t_saved, .int v8, .ref A_t_text, .int V_t_length, .ref A_t_counts, .ref A_t_isCut, .ref A_t_strength, .ref A_t_fails, .ref A_t_why, .ref A_t_driver, .ref A_t_place, .ref A_t_isDone, .int v10, .int v11, .long V_t_digested])), (A_t_text, .inl (cI, 60, .inl V_t_text)), (A_t_s, .inl (cI, 77, .inl f12))] := hD
      refine lv_istore_n (lv' := [(2, .int v13), (0, .ref A_t)]) hx hb dX5_orders_36 rfl hl (by decide) rfl (fun ls hl => ?_)
      refine lv_aload_n hx hb dX5_orders_37 rfl (lv_at hl 1 rfl) ?_
      refine lv_iconst (v := 0) hx hb dX5_orders_38 (by decide) ?_
      refine xput (ci := 5) (C := RX5) (T := TX5) (N := 20) (ty := .int) (v := .int 0) (ws2 := [(A_t_saved, .inl (cI, 462, .inl f9)), (A_t, .inr (5, [.int v6, .ref A_t_s, .ref A_t_aside, .ref A_t_snapshot, .int V_t_isKept, .ref A_t_saved, .int v8, .ref A_t_text, .int 0, .ref A_t_counts, .ref A_t_isCut, .ref A_t_strength, .ref A_t_fails, .ref A_t_why, .ref A_t_driver, .ref A_t_place, .ref A_t_isDone, .int v10, .int v11, .long V_t_digested])), (A_t_text, .inl (cI, 60, .inl V_t_text)), (A_t_s, .inl (cI, 77, .inl f12))]) hx hb hts in_X5_orders_X5 tyX5 tyX5_ok nmX5 hown hK hP hD hS 1 rfl rfl 8 (by decide) wd_X5_orders_2 rfl (by decide +kernel) rfl rfl (Nat.le_of_ble_eq_true rfl) rfl dX5_orders_39 (fun H locs hP hD hS => ?_)
      refine lv_iload_n hx hb dX5_orders_42 rfl (lv_at hl 0 rfl) ?_
      cases hg
      exact fin _ _ _ _ dX5_orders_43 (hP.sub [1, 2, 3, 0] rfl) (hD.sub [1, 2, 3, 0] (by decide) rfl) hS
    · replace hg := if_yes hg hc
      refine lv_iconst (v := 0) hx hb dX5_orders_25 (by decide) ?_
      cases hg
      exact fin _ _ _ _ dX5_orders_26 (hP.sub [3, 1, 2, 0] rfl) (hD.sub [3, 1, 2, 0] (by decide) rfl) hS
  refine lv_if_eq (tgt := 18) hx hb dX5_orders_11 (by decide) (fun hc => ?_) (fun hc => ?_)
  · replace hg := if_yes hg hc
    refine lv_iconst (v := 0) hx hb dX5_orders_18 (by decide) ?_
    exact hJ1 _ bo_0 _ _ hP hD hS _ (lv_sub hl [1] rfl) hg
  · replace hg := if_no hg hc
    refine lv_iconst (v := 1) hx hb dX5_orders_14 (by decide) ?_
    refine lv_goto (tgt := 19) hx hb dX5_orders_15 (by decide) ?_
    exact hJ1 _ bo_1 _ _ hP hD hS _ (lv_sub hl [1] rfl) hg
theorem hd_X5_undo : yX5_undo.cls = RX5 ∧ yX5_undo.cls ≠ "java/lang/invoke/MethodHandle" ∧ yX5_undo.cls ≠ "java/lang/invoke/VarHandle" ∧ (parseMethodDescriptor yX5_undo.desc).map (fun d => d.parameters.length) = some 0 := by decide +kernel
theorem in_X5_undo_X5 : ∀ w ∈ u_ws RX5 TX5 20, w ∈ wsX5_undo := fun _ h => List.mem_cons_of_mem _ (List.mem_append_right _ h)
theorem wd_X5_undo_1 : Cond.fieldLink RX5 62 "FogOrdersModel" "savedMany" "I" ∈ wsX5_undo := List.mem_of_getElem? (i := 1) rfl
theorem wd_X5_undo_2 : Cond.fieldLink RX5 7 "FogOrdersModel" "s" "[I" ∈ wsX5_undo := List.mem_of_getElem? (i := 2) rfl
theorem wd_X5_undo_3 : Cond.fieldLink RX5 19 "FogOrdersModel" "saved" "[I" ∈ wsX5_undo := List.mem_of_getElem? (i := 3) rfl
abbrev rX5_undo : Room := { frames := 1, cells := 0, slots := 0, locals := 21 }
set_option maxHeartbeats 4000000 in
set_option maxRecDepth 100000 in
theorem c_X5_undo (l : Launch) (D : va_G) (cI cZ cB cJ : ClassId) (A_t : Nat) (A_t_s : Nat) (A_t_aside : Nat) (A_t_snapshot : Nat) (A_t_saved : Nat) (A_t_text : Nat) (A_t_counts : Nat) (A_t_isCut : Nat) (A_t_strength : Nat) (A_t_fails : Nat) (A_t_why : Nat) (A_t_driver : Nat) (A_t_place : Nat) (A_t_isDone : Nat) (sz : Nat) (V_t_thrown : Int32) (V_t_isKept : Int32) (V_t_savedMany : Int32) (V_t_length : Int32) (V_t_position : Int32) (V_t_isWrong : Int32) (V_t_digested : Int64) (V_t_saved : Nat → Int32) (V_t_s : Nat → Int32) (r0 : Int32) (w1 : Int32) (w2 : Int32) (w3 : Nat → Int32) (hg : g_X5_undo V_t_thrown V_t_savedMany V_t_saved V_t_s = some (r0, w1, w2, w3)) : Met l yX5_undo wsX5_undo rX5_undo (PcW D cI cZ cB cJ sz [(A_t, .inr (5, [.int V_t_thrown, .ref A_t_s, .ref A_t_aside, .ref A_t_snapshot, .int V_t_isKept, .ref A_t_saved, .int V_t_savedMany, .ref A_t_text, .int V_t_length, .ref A_t_counts, .ref A_t_isCut, .ref A_t_strength, .ref A_t_fails, .ref A_t_why, .ref A_t_driver, .ref A_t_place, .ref A_t_isDone, .int V_t_position, .int V_t_isWrong, .long V_t_digested])), (A_t_saved, .inl (cI, 462, .inl V_t_saved)), (A_t_s, .inl (cI, 77, .inl V_t_s))] [.ref A_t]) (QWi D cI cZ cB cJ sz [(A_t, .inr (5, [.int V_t_thrown, .ref A_t_s, .ref A_t_aside, .ref A_t_snapshot, .int V_t_isKept, .ref A_t_saved, .int V_t_savedMany, .ref A_t_text, .int V_t_length, .ref A_t_counts, .ref A_t_isCut, .ref A_t_strength, .ref A_t_fails, .ref A_t_why, .ref A_t_driver, .ref A_t_place, .ref A_t_isDone, .int V_t_position, .int V_t_isWrong, .long V_t_digested])), (A_t_saved, .inl (cI, 462, .inl V_t_saved)), (A_t_s, .inl (cI, 77, .inl V_t_s))] [(A_t, .inr (5, [.int w1, .ref A_t_s, .ref A_t_aside, .ref A_t_snapshot, .int V_t_isKept, .ref A_t_saved, .int w2, .ref A_t_text, .int V_t_length, .ref A_t_counts, .ref A_t_isCut, .ref A_t_strength, .ref A_t_fails, .ref A_t_why, .ref A_t_driver, .ref A_t_place, .ref A_t_isDone, .int V_t_position, .int V_t_isWrong, .long V_t_digested])), (A_t_saved, .inl (cI, 462, .inl V_t_saved)), (A_t_s, .inl (cI, 77, .inl w3))] r0) 0 0 (va_A [(A_t, .inr (5, [.int V_t_thrown, .ref A_t_s, .ref A_t_aside, .ref A_t_snapshot, .int V_t_isKept, .ref A_t_saved, .int V_t_savedMany, .ref A_t_text, .int V_t_length, .ref A_t_counts, .ref A_t_isCut, .ref A_t_strength, .ref A_t_fails, .ref A_t_why, .ref A_t_driver, .ref A_t_place, .ref A_t_isDone, .int V_t_position, .int V_t_isWrong, .long V_t_digested])), (A_t_saved, .inl (cI, 462, .inl V_t_saved)), (A_t_s, .inl (cI, 77, .inl V_t_s))] sz) := by
  refine bodyWi (cc := cX5_undo) (maxL := 2) (lv := [(0, .ref A_t)]) (by decide) rfl (Nat.le_of_ble_eq_true rfl) rfl ?_
  intro p e s m args below meth c Q hx hb hml hown hts A hP hK hD hA hS fin ls hl
  replace hown : s.vm.findClass RX5 = some m.cls := hown
  have S : CallFix p m c cX5_undo 2 s args wsX5_undo RX5 := ⟨hx, hb, hml, hown, hts⟩
  unfold g_X5_undo at hg
  refine lv_aload_n hx hb dX5_undo_0 rfl (lv_at hl 0 rfl) ?_
  refine lv_aload_n hx hb dX5_undo_1 rfl (lv_at hl 0 rfl) ?_
  refine xget (ci := 5) (C := RX5) (T := TX5) (N := 20) (v := .int V_t_savedMany) hx hb hts in_X5_undo_X5 hown hK hP 0 rfl rfl 6 (by decide) wd_X5_undo_1 rfl dX5_undo_2 ?_
  have hJ1 : ∀ (v1 : Int32), bo v1 → ∀ (H : Heap) (locs : List Loc), va_P D vwCl [(A_t, .inr (5, [.int V_t_thrown, .ref A_t_s, .ref A_t_aside, .ref A_t_snapshot, .int V_t_isKept, .ref A_t_saved, .int V_t_savedMany, .ref A_t_text, .int V_t_length, .ref A_t_counts, .ref A_t_isCut, .ref A_t_strength, .ref A_t_fails, .ref A_t_why, .ref A_t_driver, .ref A_t_place, .ref A_t_isDone, .int V_t_position, .int V_t_isWrong, .long V_t_digested])), (A_t_saved, .inl (cI, 462, .inl V_t_saved)), (A_t_s, .inl (cI, 77, .inl V_t_s))] H → va_D A [(A_t, .inr (5, [.int V_t_thrown, .ref A_t_s, .ref A_t_aside, .ref A_t_snapshot, .int V_t_isKept, .ref A_t_saved, .int V_t_savedMany, .ref A_t_text, .int V_t_length, .ref A_t_counts, .ref A_t_isCut, .ref A_t_strength, .ref A_t_fails, .ref A_t_why, .ref A_t_driver, .ref A_t_place, .ref A_t_isDone, .int V_t_position, .int V_t_isWrong, .long V_t_digested])), (A_t_saved, .inl (cI, 462, .inl V_t_saved)), (A_t_s, .inl (cI, 77, .inl V_t_s))] → va_S A s.heap H locs → ∀ ls : Array Slot, lv_has ls 2 [(0, .ref A_t)] → g_X5_undo_J1 V_t_thrown V_t_savedMany V_t_s V_t_saved v1 = some (r0, w1, w2, w3) → W p l e rX5_undo s m args below meth c H locs 0 0 Q (F0 m 13 ls [.int v1, .ref A_t]) := by
    intro v1 hz_v1 H locs hP hD hS ls hl hg
    unfold g_X5_undo_J1 at hg
    obtain ⟨v3, v2, hq, hg⟩ := b2_ex hg
    refine callWVz (As := [.int v1]) (rest := []) (wr := [(A_t_saved, .inl (cI, 462, .inl V_t_saved)), (A_t_s, .inl (cI, 77, .inl V_t_s))]) S hK hP hD hS hA (c_X5_holds l D cI cZ cB cJ A_t A_t_s A_t_aside A_t_snapshot A_t_saved A_t_text A_t_counts A_t_isCut A_t_strength A_t_fails A_t_why A_t_driver A_t_place A_t_isDone _ V_t_thrown V_t_isKept V_t_savedMany V_t_length V_t_position V_t_isWrong V_t_digested v1 v3 v2 hq) [0] [1, 2] rfl rfl (by decide +kernel) (by decide +kernel) (by decide +kernel) (cwV 1 hts gX5_undo_X5_holds rfl rfl rfl hd_X5_holds ⟨Nat.le_of_ble_eq_true rfl, Nat.le_of_ble_eq_true rfl⟩) rfl rfl rfl hl.1 rfl (Nat.le_of_ble_eq_true rfl) dX5_undo_13 ⟨Nat.zero_le _, Nat.zero_le _⟩ (fun hz_v3 H locs hP hD hS => ?_)
    replace hP : va_P D vwCl [(A_t_saved, .inl (cI, 462, .inl V_t_saved)), (A_t_s, .inl (cI, 77, .inl V_t_s)), (A_t, .inr (5, [.int v2, .ref A_t_s, .ref A_t_aside, .ref A_t_snapshot, .int V_t_isKept, .ref A_t_saved, .int V_t_savedMany, .ref A_t_text, .int V_t_length, .ref A_t_counts, .ref A_t_isCut, .ref A_t_strength, .ref A_t_fails, .ref A_t_why, .ref A_t_driver, .ref A_t_place, .ref A_t_isDone, .int V_t_position, .int V_t_isWrong, .long V_t_digested]))] H := hP
    replace hD : va_D A [(A_t_saved, .inl (cI, 462, .inl V_t_saved)), (A_t_s, .inl (cI, 77, .inl V_t_s)), (A_t, .inr (5, [.int v2, .ref A_t_s, .ref A_t_aside, .ref A_t_snapshot, .int V_t_isKept, .ref A_t_saved, .int V_t_savedMany, .ref A_t_text, .int V_t_length, .ref A_t_counts, .ref A_t_isCut, .ref A_t_strength, .ref A_t_fails, .ref A_t_why, .ref A_t_driver, .ref A_t_place, .ref A_t_isDone, .int V_t_position, .int V_t_isWrong, .long V_t_digested]))] := hD
    refine lv_if_ne (tgt := 21) hx hb dX5_undo_16 (by decide) (fun hc => ?_) (fun hc => ?_)
    · replace hg := if_no hg hc
      refine lv_aload_n hx hb dX5_undo_21 rfl (lv_at hl 0 rfl) ?_
      refine lv_dup hx hb dX5_undo_22 rfl ?_
      refine xget (ci := 5) (C := RX5) (T := TX5) (N := 20) (v := .int V_t_savedMany) hx hb hts in_X5_undo_X5 hown hK hP 2 rfl rfl 6 (by decide) wd_X5_undo_1 rfl dX5_undo_23 ?_
      refine lv_iconst (v := 1) hx hb dX5_undo_26 (by decide) ?_
      refine lv_isub hx hb dX5_undo_27 ?_
      refine xput (ci := 5) (C := RX5) (T := TX5) (N := 20) (ty := .int) (v := .int (V_t_savedMany - 1)) (ws2 := [(A_t_saved, .inl (cI, 462, .inl V_t_saved)), (A_t_s, .inl (cI, 77, .inl V_t_s)), (A_t, .inr (5, [.int v2, .ref A_t_s, .ref A_t_aside, .ref A_t_snapshot, .int V_t_isKept, .ref A_t_saved, .int (V_t_savedMany - 1), .ref A_t_text, .int V_t_length, .ref A_t_counts, .ref A_t_isCut, .ref A_t_strength, .ref A_t_fails, .ref A_t_why, .ref A_t_driver, .ref A_t_place, .ref A_t_isDone, .int V_t_position, .int V_t_isWrong, .long V_t_digested]))]) hx hb hts in_X5_undo_X5 tyX5 tyX5_ok nmX5 hown hK hP hD hS 2 rfl rfl 6 (by decide) wd_X5_undo_1 rfl (by decide +kernel) rfl rfl (Nat.le_of_ble_eq_true rfl) rfl dX5_undo_28 (fun H locs hP hD hS => ?_)
      refine lv_iconst (v := 0) hx hb dX5_undo_31 (by decide) ?_
      refine lv_istore_n (lv' := [(1, .int 0), (0, .ref A_t)]) hx hb dX5_undo_32 rfl hl (by decide) rfl (fun ls hl => ?_)
      obtain ⟨f8, hL, hg⟩ := bind_ex hg
      have kx : ∀ (H : Heap) (locs : List Loc), va_P D vwCl [(A_t_saved, .inl (cI, 462, .inl V_t_saved)), (A_t_s, .inl (cI, 77, .inl f8)), (A_t, .inr (5, [.int v2, .ref A_t_s, .ref A_t_aside, .ref A_t_snapshot, .int V_t_isKept, .ref A_t_saved, .int (V_t_savedMany - 1), .ref A_t_text, .int V_t_length, .ref A_t_counts, .ref A_t_isCut, .ref A_t_strength, .ref A_t_fails, .ref A_t_why, .ref A_t_driver, .ref A_t_place, .ref A_t_isDone, .int V_t_position, .int V_t_isWrong, .long V_t_digested]))] H → va_D A [(A_t_saved, .inl (cI, 462, .inl V_t_saved)), (A_t_s, .inl (cI, 77, .inl f8)), (A_t, .inr (5, [.int v2, .ref A_t_s, .ref A_t_aside, .ref A_t_snapshot, .int V_t_isKept, .ref A_t_saved, .int (V_t_savedMany - 1), .ref A_t_text, .int V_t_length, .ref A_t_counts, .ref A_t_isCut, .ref A_t_strength, .ref A_t_fails, .ref A_t_why, .ref A_t_driver, .ref A_t_place, .ref A_t_isDone, .int V_t_position, .int V_t_isWrong, .long V_t_digested]))] → va_S A s.heap H locs → ∀ ls : Array Slot, lv_has ls 2 [(0, .ref A_t)] → W p l e rX5_undo s m args below meth c H locs 0 0 Q (F0 m 65 ls []) := by
        intro H locs hP hD hS ls hl
        refine lv_aload_n hx hb dX5_undo_65 rfl (lv_at hl 0 rfl) ?_
        refine xget (ci := 5) (C := RX5) (T := TX5) (N := 20) (v := .int (V_t_savedMany - 1)) hx hb hts in_X5_undo_X5 hown hK hP 2 rfl rfl 6 (by decide) wd_X5_undo_1 rfl dX5_undo_66 ?_
        cases hg
        exact fin _ _ _ _ dX5_undo_69 (hP.sub [2, 0, 1] rfl) (hD.sub [2, 0, 1] (by decide) rfl) hS
      have L : ∀ (nf : Nat) (v4 : Int32) (f5 : Nat → Int32), ∀ (H : Heap) (locs : List Loc), va_P D vwCl [(A_t_saved, .inl (cI, 462, .inl V_t_saved)), (A_t_s, .inl (cI, 77, .inl f5)), (A_t, .inr (5, [.int v2, .ref A_t_s, .ref A_t_aside, .ref A_t_snapshot, .int V_t_isKept, .ref A_t_saved, .int (V_t_savedMany - 1), .ref A_t_text, .int V_t_length, .ref A_t_counts, .ref A_t_isCut, .ref A_t_strength, .ref A_t_fails, .ref A_t_why, .ref A_t_driver, .ref A_t_place, .ref A_t_isDone, .int V_t_position, .int V_t_isWrong, .long V_t_digested]))] H → va_D A [(A_t_saved, .inl (cI, 462, .inl V_t_saved)), (A_t_s, .inl (cI, 77, .inl f5)), (A_t, .inr (5, [.int v2, .ref A_t_s, .ref A_t_aside, .ref A_t_snapshot, .int V_t_isKept, .ref A_t_saved, .int (V_t_savedMany - 1), .ref A_t_text, .int V_t_length, .ref A_t_counts, .ref A_t_isCut, .ref A_t_strength, .ref A_t_fails, .ref A_t_why, .ref A_t_driver, .ref A_t_place, .ref A_t_isDone, .int V_t_position, .int V_t_isWrong, .long V_t_digested]))] → va_S A s.heap H locs → ∀ ls : Array Slot, lv_has ls 2 [(1, .int v4), (0, .ref A_t)] → g_X5_undo_L1 V_t_saved V_t_savedMany nf v4 f5 = some f8 → W p l e rX5_undo s m args below meth c H locs 0 0 Q (F0 m 33 ls []) := by
        intro nf
        induction nf with
        | zero =>
          intro v4 f5 H locs hP hD hS ls hl hg
          exact no_some hg
        | succ nf ih =>
          intro v4 f5 H locs hP hD hS ls hl hg
          rw [g_X5_undo_L1] at hg
          refine lv_iload_n hx hb dX5_undo_33 rfl (lv_at hl 0 rfl) ?_
          refine lv_bipush (v := 77) hx hb dX5_undo_34 (by decide) ?_
          refine lv_icmp_ge (tgt := 65) hx hb dX5_undo_36 (by decide) (fun hc => ?_) (fun hc => ?_)
          · replace hg := if_yes hg hc
            cases hg
            exact kx _ _ hP hD hS _ (lv_sub hl [1] rfl)
          · replace hg := if_no hg hc
            refine lv_aload_n hx hb dX5_undo_39 rfl (lv_at hl 1 rfl) ?_
            refine xget (ci := 5) (C := RX5) (T := TX5) (N := 20) (v := .ref A_t_s) hx hb hts in_X5_undo_X5 hown hK hP 2 rfl rfl 1 (by decide) wd_X5_undo_2 rfl dX5_undo_40 ?_
            refine lv_iload_n hx hb dX5_undo_43 rfl (lv_at hl 0 rfl) ?_
            refine lv_aload_n hx hb dX5_undo_44 rfl (lv_at hl 1 rfl) ?_
            refine xget (ci := 5) (C := RX5) (T := TX5) (N := 20) (v := .ref A_t_saved) hx hb hts in_X5_undo_X5 hown hK hP 2 rfl rfl 5 (by decide) wd_X5_undo_3 rfl dX5_undo_45 ?_
            refine lv_bipush (v := 77) hx hb dX5_undo_48 (by decide) ?_
            refine lv_aload_n hx hb dX5_undo_50 rfl (lv_at hl 1 rfl) ?_
            refine xget (ci := 5) (C := RX5) (T := TX5) (N := 20) (v := .int (V_t_savedMany - 1)) hx hb hts in_X5_undo_X5 hown hK hP 2 rfl rfl 6 (by decide) wd_X5_undo_1 rfl dX5_undo_51 ?_
            refine lv_imul hx hb dX5_undo_54 ?_
            refine lv_iload_n hx hb dX5_undo_55 rfl (lv_at hl 0 rfl) ?_
            refine lv_iadd hx hb dX5_undo_56 ?_
            obtain ⟨v6, hin, hv, hg⟩ := rdA_ex hg
            refine xiald hx hb hK hP 0 rfl hin hv dX5_undo_57 ?_
            obtain ⟨f7, hin, hv, hg⟩ := wrA_ex hg
            refine xiast (ws2 := [(A_t_saved, .inl (cI, 462, .inl V_t_saved)), (A_t_s, .inl (cI, 77, .inl f7)), (A_t, .inr (5, [.int v2, .ref A_t_s, .ref A_t_aside, .ref A_t_snapshot, .int V_t_isKept, .ref A_t_saved, .int (V_t_savedMany - 1), .ref A_t_text, .int V_t_length, .ref A_t_counts, .ref A_t_isCut, .ref A_t_strength, .ref A_t_fails, .ref A_t_why, .ref A_t_driver, .ref A_t_place, .ref A_t_isDone, .int V_t_position, .int V_t_isWrong, .long V_t_digested]))]) hx hb hK hP hD hS 1 rfl hin hv rfl dX5_undo_58 (fun H locs hP hD hS => ?_)
            refine lv_iinc (v := (v4 + 1)) (lv' := [(1, .int (v4 + 1)), (0, .ref A_t)]) hx hb dX5_undo_59 hl (k := 0) rfl rfl (by decide) rfl (fun ls hl => ?_)
            refine lv_goto (tgt := 33) hx hb dX5_undo_62 (by decide) ?_
            exact ih _ _ _ _ hP hD hS _ (lv_sub hl [0, 1] rfl) hg
      exact L FU _ _ _ _ hP hD hS _ (lv_sub hl [0, 1] rfl) hL
    · replace hg := if_yes hg hc
      refine lv_iconst (v := 0) hx hb dX5_undo_19 (by decide) ?_
      cases hg
      exact fin _ _ _ _ dX5_undo_20 (hP.sub [2, 0, 1] rfl) (hD.sub [2, 0, 1] (by decide) rfl) hS
  refine lv_if_le (tgt := 12) hx hb dX5_undo_5 (by decide) (fun hc => ?_) (fun hc => ?_)
  · replace hg := if_yes hg hc
    refine lv_iconst (v := 1) hx hb dX5_undo_12 (by decide) ?_
    exact hJ1 _ bo_1 _ _ hP hD hS _ (lv_sub hl [0] rfl) hg
  · replace hg := if_no hg hc
    refine lv_iconst (v := 0) hx hb dX5_undo_8 (by decide) ?_
    refine lv_goto (tgt := 13) hx hb dX5_undo_9 (by decide) ?_
    exact hJ1 _ bo_0 _ _ hP hD hS _ (lv_sub hl [0] rfl) hg
theorem hd_X5_keep : yX5_keep.cls = RX5 ∧ yX5_keep.cls ≠ "java/lang/invoke/MethodHandle" ∧ yX5_keep.cls ≠ "java/lang/invoke/VarHandle" ∧ (parseMethodDescriptor yX5_keep.desc).map (fun d => d.parameters.length) = some 0 := by decide +kernel
theorem in_X5_keep_X5 : ∀ w ∈ u_ws RX5 TX5 20, w ∈ wsX5_keep := fun _ h => List.mem_cons_of_mem _ (List.mem_append_right _ h)
theorem wd_X5_keep_1 : Cond.fieldLink RX5 50 "FogOrdersModel" "thrown" "I" ∈ wsX5_keep := List.mem_of_getElem? (i := 1) rfl
theorem wd_X5_keep_4 : Cond.fieldLink RX5 196 "FogOrdersModel" "isKept" "Z" ∈ wsX5_keep := List.mem_of_getElem? (i := 4) rfl
theorem wd_X5_keep_3 : Cond.fieldLink RX5 7 "FogOrdersModel" "s" "[I" ∈ wsX5_keep := List.mem_of_getElem? (i := 3) rfl
theorem wd_X5_keep_2 : Cond.fieldLink RX5 16 "FogOrdersModel" "snapshot" "[I" ∈ wsX5_keep := List.mem_of_getElem? (i := 2) rfl
abbrev rX5_keep : Room := { frames := 0, cells := 0, slots := 0, locals := 0 }
set_option maxHeartbeats 4000000 in
set_option maxRecDepth 100000 in
theorem c_X5_keep (l : Launch) (D : va_G) (cI cZ cB cJ : ClassId) (A_t : Nat) (A_t_s : Nat) (A_t_aside : Nat) (A_t_snapshot : Nat) (A_t_saved : Nat) (A_t_text : Nat) (A_t_counts : Nat) (A_t_isCut : Nat) (A_t_strength : Nat) (A_t_fails : Nat) (A_t_why : Nat) (A_t_driver : Nat) (A_t_place : Nat) (A_t_isDone : Nat) (sz : Nat) (V_t_thrown : Int32) (V_t_isKept : Int32) (V_t_savedMany : Int32) (V_t_length : Int32) (V_t_position : Int32) (V_t_isWrong : Int32) (V_t_digested : Int64) (V_t_s : Nat → Int32) (V_t_snapshot : Nat → Int32) (r0 : Int32) (w1 : Int32) (w2 : Int32) (w3 : Nat → Int32) (hg : g_X5_keep V_t_thrown V_t_isKept V_t_s V_t_snapshot = some (r0, w1, w2, w3)) : Met l yX5_keep wsX5_keep rX5_keep (PcW D cI cZ cB cJ sz [(A_t, .inr (5, [.int V_t_thrown, .ref A_t_s, .ref A_t_aside, .ref A_t_snapshot, .int V_t_isKept, .ref A_t_saved, .int V_t_savedMany, .ref A_t_text, .int V_t_length, .ref A_t_counts, .ref A_t_isCut, .ref A_t_strength, .ref A_t_fails, .ref A_t_why, .ref A_t_driver, .ref A_t_place, .ref A_t_isDone, .int V_t_position, .int V_t_isWrong, .long V_t_digested])), (A_t_s, .inl (cI, 77, .inl V_t_s)), (A_t_snapshot, .inl (cI, 77, .inl V_t_snapshot))] [.ref A_t]) (QWi D cI cZ cB cJ sz [(A_t, .inr (5, [.int V_t_thrown, .ref A_t_s, .ref A_t_aside, .ref A_t_snapshot, .int V_t_isKept, .ref A_t_saved, .int V_t_savedMany, .ref A_t_text, .int V_t_length, .ref A_t_counts, .ref A_t_isCut, .ref A_t_strength, .ref A_t_fails, .ref A_t_why, .ref A_t_driver, .ref A_t_place, .ref A_t_isDone, .int V_t_position, .int V_t_isWrong, .long V_t_digested])), (A_t_s, .inl (cI, 77, .inl V_t_s)), (A_t_snapshot, .inl (cI, 77, .inl V_t_snapshot))] [(A_t, .inr (5, [.int w1, .ref A_t_s, .ref A_t_aside, .ref A_t_snapshot, .int w2, .ref A_t_saved, .int V_t_savedMany, .ref A_t_text, .int V_t_length, .ref A_t_counts, .ref A_t_isCut, .ref A_t_strength, .ref A_t_fails, .ref A_t_why, .ref A_t_driver, .ref A_t_place, .ref A_t_isDone, .int V_t_position, .int V_t_isWrong, .long V_t_digested])), (A_t_s, .inl (cI, 77, .inl V_t_s)), (A_t_snapshot, .inl (cI, 77, .inl w3))] r0) 0 0 (va_A [(A_t, .inr (5, [.int V_t_thrown, .ref A_t_s, .ref A_t_aside, .ref A_t_snapshot, .int V_t_isKept, .ref A_t_saved, .int V_t_savedMany, .ref A_t_text, .int V_t_length, .ref A_t_counts, .ref A_t_isCut, .ref A_t_strength, .ref A_t_fails, .ref A_t_why, .ref A_t_driver, .ref A_t_place, .ref A_t_isDone, .int V_t_position, .int V_t_isWrong, .long V_t_digested])), (A_t_s, .inl (cI, 77, .inl V_t_s)), (A_t_snapshot, .inl (cI, 77, .inl V_t_snapshot))] sz) := by
  refine bodyWi (cc := cX5_keep) (maxL := 2) (lv := [(0, .ref A_t)]) (by decide) rfl (Nat.le_of_ble_eq_true rfl) rfl ?_
  intro p e s m args below meth c Q hx hb hml hown hts A hP hK hD hA hS fin ls hl
  replace hown : s.vm.findClass RX5 = some m.cls := hown
  have S : CallFix p m c cX5_keep 2 s args wsX5_keep RX5 := ⟨hx, hb, hml, hown, hts⟩
  unfold g_X5_keep at hg
  refine lv_aload_n hx hb dX5_keep_0 rfl (lv_at hl 0 rfl) ?_
  refine lv_iconst (v := 0) hx hb dX5_keep_1 (by decide) ?_
  refine xput (ci := 5) (C := RX5) (T := TX5) (N := 20) (ty := .int) (v := .int 0) (ws2 := [(A_t, .inr (5, [.int 0, .ref A_t_s, .ref A_t_aside, .ref A_t_snapshot, .int V_t_isKept, .ref A_t_saved, .int V_t_savedMany, .ref A_t_text, .int V_t_length, .ref A_t_counts, .ref A_t_isCut, .ref A_t_strength, .ref A_t_fails, .ref A_t_why, .ref A_t_driver, .ref A_t_place, .ref A_t_isDone, .int V_t_position, .int V_t_isWrong, .long V_t_digested])), (A_t_s, .inl (cI, 77, .inl V_t_s)), (A_t_snapshot, .inl (cI, 77, .inl V_t_snapshot))]) hx hb hts in_X5_keep_X5 tyX5 tyX5_ok nmX5 hown hK hP hD hS 0 rfl rfl 0 (by decide) wd_X5_keep_1 rfl (by decide +kernel) rfl rfl (Nat.le_of_ble_eq_true rfl) rfl dX5_keep_2 (fun H locs hP hD hS => ?_)
  refine lv_iconst (v := 0) hx hb dX5_keep_5 (by decide) ?_
  refine lv_istore_n (lv' := [(1, .int 0), (0, .ref A_t)]) hx hb dX5_keep_6 rfl hl (by decide) rfl (fun ls hl => ?_)
  obtain ⟨f5, hL, hg⟩ := bind_ex hg
  have kx : ∀ (H : Heap) (locs : List Loc), va_P D vwCl [(A_t, .inr (5, [.int 0, .ref A_t_s, .ref A_t_aside, .ref A_t_snapshot, .int V_t_isKept, .ref A_t_saved, .int V_t_savedMany, .ref A_t_text, .int V_t_length, .ref A_t_counts, .ref A_t_isCut, .ref A_t_strength, .ref A_t_fails, .ref A_t_why, .ref A_t_driver, .ref A_t_place, .ref A_t_isDone, .int V_t_position, .int V_t_isWrong, .long V_t_digested])), (A_t_s, .inl (cI, 77, .inl V_t_s)), (A_t_snapshot, .inl (cI, 77, .inl f5))] H → va_D A [(A_t, .inr (5, [.int 0, .ref A_t_s, .ref A_t_aside, .ref A_t_snapshot, .int V_t_isKept, .ref A_t_saved, .int V_t_savedMany, .ref A_t_text, .int V_t_length, .ref A_t_counts, .ref A_t_isCut, .ref A_t_strength, .ref A_t_fails, .ref A_t_why, .ref A_t_driver, .ref A_t_place, .ref A_t_isDone, .int V_t_position, .int V_t_isWrong, .long V_t_digested])), (A_t_s, .inl (cI, 77, .inl V_t_s)), (A_t_snapshot, .inl (cI, 77, .inl f5))] → va_S A s.heap H locs → ∀ ls : Array Slot, lv_has ls 2 [(0, .ref A_t)] → W p l e rX5_keep s m args below meth c H locs 0 0 Q (F0 m 31 ls []) := by
    intro H locs hP hD hS ls hl
    refine lv_aload_n hx hb dX5_keep_31 rfl (lv_at hl 0 rfl) ?_
    refine lv_iconst (v := 1) hx hb dX5_keep_32 (by decide) ?_
    refine xput (ci := 5) (C := RX5) (T := TX5) (N := 20) (ty := .boolean) (v := .int 1) (ws2 := [(A_t, .inr (5, [.int 0, .ref A_t_s, .ref A_t_aside, .ref A_t_snapshot, .int 1, .ref A_t_saved, .int V_t_savedMany, .ref A_t_text, .int V_t_length, .ref A_t_counts, .ref A_t_isCut, .ref A_t_strength, .ref A_t_fails, .ref A_t_why, .ref A_t_driver, .ref A_t_place, .ref A_t_isDone, .int V_t_position, .int V_t_isWrong, .long V_t_digested])), (A_t_s, .inl (cI, 77, .inl V_t_s)), (A_t_snapshot, .inl (cI, 77, .inl f5))]) hx hb hts in_X5_keep_X5 tyX5 tyX5_ok nmX5 hown hK hP hD hS 0 rfl rfl 4 (by decide) wd_X5_keep_4 rfl (by decide +kernel) bo_1.1 bo_1.2 (Nat.le_of_ble_eq_true rfl) rfl dX5_keep_33 (fun H locs hP hD hS => ?_)
    refine lv_aload_n hx hb dX5_keep_36 rfl (lv_at hl 0 rfl) ?_
    refine xget (ci := 5) (C := RX5) (T := TX5) (N := 20) (v := .ref A_t_s) hx hb hts in_X5_keep_X5 hown hK hP 0 rfl rfl 1 (by decide) wd_X5_keep_3 rfl dX5_keep_37 ?_
    refine lv_bipush (v := 9) hx hb dX5_keep_40 (by decide) ?_
    obtain ⟨v6, hin, hv, hg⟩ := rdA_ex hg
    refine xiald hx hb hK hP 1 rfl hin hv dX5_keep_42 ?_
    cases hg
    exact fin _ _ _ _ dX5_keep_43 hP hD hS
  have L : ∀ (nf : Nat) (v1 : Int32) (f2 : Nat → Int32), ∀ (H : Heap) (locs : List Loc), va_P D vwCl [(A_t, .inr (5, [.int 0, .ref A_t_s, .ref A_t_aside, .ref A_t_snapshot, .int V_t_isKept, .ref A_t_saved, .int V_t_savedMany, .ref A_t_text, .int V_t_length, .ref A_t_counts, .ref A_t_isCut, .ref A_t_strength, .ref A_t_fails, .ref A_t_why, .ref A_t_driver, .ref A_t_place, .ref A_t_isDone, .int V_t_position, .int V_t_isWrong, .long V_t_digested])), (A_t_s, .inl (cI, 77, .inl V_t_s)), (A_t_snapshot, .inl (cI, 77, .inl f2))] H → va_D A [(A_t, .inr (5, [.int 0, .ref A_t_s, .ref A_t_aside, .ref A_t_snapshot, .int V_t_isKept, .ref A_t_saved, .int V_t_savedMany, .ref A_t_text, .int V_t_length, .ref A_t_counts, .ref A_t_isCut, .ref A_t_strength, .ref A_t_fails, .ref A_t_why, .ref A_t_driver, .ref A_t_place, .ref A_t_isDone, .int V_t_position, .int V_t_isWrong, .long V_t_digested])), (A_t_s, .inl (cI, 77, .inl V_t_s)), (A_t_snapshot, .inl (cI, 77, .inl f2))] → va_S A s.heap H locs → ∀ ls : Array Slot, lv_has ls 2 [(1, .int v1), (0, .ref A_t)] → g_X5_keep_L1 V_t_s nf v1 f2 = some f5 → W p l e rX5_keep s m args below meth c H locs 0 0 Q (F0 m 7 ls []) := by
    intro nf
    induction nf with
    | zero =>
      intro v1 f2 H locs hP hD hS ls hl hg
      exact no_some hg
    | succ nf ih =>
      intro v1 f2 H locs hP hD hS ls hl hg
      rw [g_X5_keep_L1] at hg
      refine lv_iload_n hx hb dX5_keep_7 rfl (lv_at hl 0 rfl) ?_
      refine lv_bipush (v := 77) hx hb dX5_keep_8 (by decide) ?_
      refine lv_icmp_ge (tgt := 31) hx hb dX5_keep_10 (by decide) (fun hc => ?_) (fun hc => ?_)
      · replace hg := if_yes hg hc
        cases hg
        exact kx _ _ hP hD hS _ (lv_sub hl [1] rfl)
      · replace hg := if_no hg hc
        refine lv_aload_n hx hb dX5_keep_13 rfl (lv_at hl 1 rfl) ?_
        refine xget (ci := 5) (C := RX5) (T := TX5) (N := 20) (v := .ref A_t_snapshot) hx hb hts in_X5_keep_X5 hown hK hP 0 rfl rfl 3 (by decide) wd_X5_keep_2 rfl dX5_keep_14 ?_
        refine lv_iload_n hx hb dX5_keep_17 rfl (lv_at hl 0 rfl) ?_
        refine lv_aload_n hx hb dX5_keep_18 rfl (lv_at hl 1 rfl) ?_
        refine xget (ci := 5) (C := RX5) (T := TX5) (N := 20) (v := .ref A_t_s) hx hb hts in_X5_keep_X5 hown hK hP 0 rfl rfl 1 (by decide) wd_X5_keep_3 rfl dX5_keep_19 ?_
        refine lv_iload_n hx hb dX5_keep_22 rfl (lv_at hl 0 rfl) ?_
        obtain ⟨v3, hin, hv, hg⟩ := rdA_ex hg
        refine xiald hx hb hK hP 1 rfl hin hv dX5_keep_23 ?_
        obtain ⟨f4, hin, hv, hg⟩ := wrA_ex hg
        refine xiast (ws2 := [(A_t, .inr (5, [.int 0, .ref A_t_s, .ref A_t_aside, .ref A_t_snapshot, .int V_t_isKept, .ref A_t_saved, .int V_t_savedMany, .ref A_t_text, .int V_t_length, .ref A_t_counts, .ref A_t_isCut, .ref A_t_strength, .ref A_t_fails, .ref A_t_why, .ref A_t_driver, .ref A_t_place, .ref A_t_isDone, .int V_t_position, .int V_t_isWrong, .long V_t_digested])), (A_t_s, .inl (cI, 77, .inl V_t_s)), (A_t_snapshot, .inl (cI, 77, .inl f4))]) hx hb hK hP hD hS 2 rfl hin hv rfl dX5_keep_24 (fun H locs hP hD hS => ?_)
        refine lv_iinc (v := (v1 + 1)) (lv' := [(1, .int (v1 + 1)), (0, .ref A_t)]) hx hb dX5_keep_25 hl (k := 0) rfl rfl (by decide) rfl (fun ls hl => ?_)
        refine lv_goto (tgt := 7) hx hb dX5_keep_28 (by decide) ?_
        exact ih _ _ _ _ hP hD hS _ (lv_sub hl [0, 1] rfl) hg
  exact L FU _ _ _ _ hP hD hS _ (lv_sub hl [0, 1] rfl) hL
theorem hd_X5_restore : yX5_restore.cls = RX5 ∧ yX5_restore.cls ≠ "java/lang/invoke/MethodHandle" ∧ yX5_restore.cls ≠ "java/lang/invoke/VarHandle" ∧ (parseMethodDescriptor yX5_restore.desc).map (fun d => d.parameters.length) = some 0 := by decide +kernel
theorem in_X5_restore_X5 : ∀ w ∈ u_ws RX5 TX5 20, w ∈ wsX5_restore := fun _ h => List.mem_cons_of_mem _ (List.mem_append_right _ h)
theorem wd_X5_restore_1 : Cond.fieldLink RX5 196 "FogOrdersModel" "isKept" "Z" ∈ wsX5_restore := List.mem_of_getElem? (i := 1) rfl
theorem wd_X5_restore_2 : Cond.fieldLink RX5 7 "FogOrdersModel" "s" "[I" ∈ wsX5_restore := List.mem_of_getElem? (i := 2) rfl
theorem wd_X5_restore_3 : Cond.fieldLink RX5 16 "FogOrdersModel" "snapshot" "[I" ∈ wsX5_restore := List.mem_of_getElem? (i := 3) rfl
abbrev rX5_restore : Room := { frames := 1, cells := 0, slots := 0, locals := 21 }
set_option maxHeartbeats 4000000 in
set_option maxRecDepth 100000 in
theorem c_X5_restore (l : Launch) (D : va_G) (cI cZ cB cJ : ClassId) (A_t : Nat) (A_t_s : Nat) (A_t_aside : Nat) (A_t_snapshot : Nat) (A_t_saved : Nat) (A_t_text : Nat) (A_t_counts : Nat) (A_t_isCut : Nat) (A_t_strength : Nat) (A_t_fails : Nat) (A_t_why : Nat) (A_t_driver : Nat) (A_t_place : Nat) (A_t_isDone : Nat) (sz : Nat) (V_t_thrown : Int32) (V_t_isKept : Int32) (V_t_savedMany : Int32) (V_t_length : Int32) (V_t_position : Int32) (V_t_isWrong : Int32) (V_t_digested : Int64) (V_t_s : Nat → Int32) (V_t_saved : Nat → Int32) (V_t_snapshot : Nat → Int32) (r0 : Int32) (w1 : Int32) (w2 : Int32) (w3 : Nat → Int32) (w4 : Nat → Int32) (hg : g_X5_restore V_t_thrown V_t_isKept V_t_savedMany V_t_s V_t_saved V_t_snapshot = some (r0, w1, w2, w3, w4)) : Met l yX5_restore wsX5_restore rX5_restore (PcW D cI cZ cB cJ sz [(A_t, .inr (5, [.int V_t_thrown, .ref A_t_s, .ref A_t_aside, .ref A_t_snapshot, .int V_t_isKept, .ref A_t_saved, .int V_t_savedMany, .ref A_t_text, .int V_t_length, .ref A_t_counts, .ref A_t_isCut, .ref A_t_strength, .ref A_t_fails, .ref A_t_why, .ref A_t_driver, .ref A_t_place, .ref A_t_isDone, .int V_t_position, .int V_t_isWrong, .long V_t_digested])), (A_t_s, .inl (cI, 77, .inl V_t_s)), (A_t_saved, .inl (cI, 462, .inl V_t_saved)), (A_t_snapshot, .inl (cI, 77, .inl V_t_snapshot))] [.ref A_t]) (QWi D cI cZ cB cJ sz [(A_t, .inr (5, [.int V_t_thrown, .ref A_t_s, .ref A_t_aside, .ref A_t_snapshot, .int V_t_isKept, .ref A_t_saved, .int V_t_savedMany, .ref A_t_text, .int V_t_length, .ref A_t_counts, .ref A_t_isCut, .ref A_t_strength, .ref A_t_fails, .ref A_t_why, .ref A_t_driver, .ref A_t_place, .ref A_t_isDone, .int V_t_position, .int V_t_isWrong, .long V_t_digested])), (A_t_s, .inl (cI, 77, .inl V_t_s)), (A_t_saved, .inl (cI, 462, .inl V_t_saved)), (A_t_snapshot, .inl (cI, 77, .inl V_t_snapshot))] [(A_t, .inr (5, [.int w1, .ref A_t_s, .ref A_t_aside, .ref A_t_snapshot, .int V_t_isKept, .ref A_t_saved, .int w2, .ref A_t_text, .int V_t_length, .ref A_t_counts, .ref A_t_isCut, .ref A_t_strength, .ref A_t_fails, .ref A_t_why, .ref A_t_driver, .ref A_t_place, .ref A_t_isDone, .int V_t_position, .int V_t_isWrong, .long V_t_digested])), (A_t_s, .inl (cI, 77, .inl w3)), (A_t_saved, .inl (cI, 462, .inl w4)), (A_t_snapshot, .inl (cI, 77, .inl V_t_snapshot))] r0) 0 0 (va_A [(A_t, .inr (5, [.int V_t_thrown, .ref A_t_s, .ref A_t_aside, .ref A_t_snapshot, .int V_t_isKept, .ref A_t_saved, .int V_t_savedMany, .ref A_t_text, .int V_t_length, .ref A_t_counts, .ref A_t_isCut, .ref A_t_strength, .ref A_t_fails, .ref A_t_why, .ref A_t_driver, .ref A_t_place, .ref A_t_isDone, .int V_t_position, .int V_t_isWrong, .long V_t_digested])), (A_t_s, .inl (cI, 77, .inl V_t_s)), (A_t_saved, .inl (cI, 462, .inl V_t_saved)), (A_t_snapshot, .inl (cI, 77, .inl V_t_snapshot))] sz) := by
  refine bodyWi (cc := cX5_restore) (maxL := 2) (lv := [(0, .ref A_t)]) (by decide) rfl (Nat.le_of_ble_eq_true rfl) rfl ?_
  intro p e s m args below meth c Q hx hb hml hown hts A hP hK hD hA hS fin ls hl
  replace hown : s.vm.findClass RX5 = some m.cls := hown
  have S : CallFix p m c cX5_restore 2 s args wsX5_restore RX5 := ⟨hx, hb, hml, hown, hts⟩
  unfold g_X5_restore at hg
  refine lv_aload_n hx hb dX5_restore_0 rfl (lv_at hl 0 rfl) ?_
  refine lv_aload_n hx hb dX5_restore_1 rfl (lv_at hl 0 rfl) ?_
  refine xget (ci := 5) (C := RX5) (T := TX5) (N := 20) (v := .int V_t_isKept) hx hb hts in_X5_restore_X5 hown hK hP 0 rfl rfl 4 (by decide) wd_X5_restore_1 rfl dX5_restore_2 ?_
  have hJ1 : ∀ (v1 : Int32), bo v1 → ∀ (H : Heap) (locs : List Loc), va_P D vwCl [(A_t, .inr (5, [.int V_t_thrown, .ref A_t_s, .ref A_t_aside, .ref A_t_snapshot, .int V_t_isKept, .ref A_t_saved, .int V_t_savedMany, .ref A_t_text, .int V_t_length, .ref A_t_counts, .ref A_t_isCut, .ref A_t_strength, .ref A_t_fails, .ref A_t_why, .ref A_t_driver, .ref A_t_place, .ref A_t_isDone, .int V_t_position, .int V_t_isWrong, .long V_t_digested])), (A_t_s, .inl (cI, 77, .inl V_t_s)), (A_t_saved, .inl (cI, 462, .inl V_t_saved)), (A_t_snapshot, .inl (cI, 77, .inl V_t_snapshot))] H → va_D A [(A_t, .inr (5, [.int V_t_thrown, .ref A_t_s, .ref A_t_aside, .ref A_t_snapshot, .int V_t_isKept, .ref A_t_saved, .int V_t_savedMany, .ref A_t_text, .int V_t_length, .ref A_t_counts, .ref A_t_isCut, .ref A_t_strength, .ref A_t_fails, .ref A_t_why, .ref A_t_driver, .ref A_t_place, .ref A_t_isDone, .int V_t_position, .int V_t_isWrong, .long V_t_digested])), (A_t_s, .inl (cI, 77, .inl V_t_s)), (A_t_saved, .inl (cI, 462, .inl V_t_saved)), (A_t_snapshot, .inl (cI, 77, .inl V_t_snapshot))] → va_S A s.heap H locs → ∀ ls : Array Slot, lv_has ls 2 [(0, .ref A_t)] → g_X5_restore_J1 V_t_thrown V_t_savedMany V_t_s V_t_saved V_t_snapshot v1 = some (r0, w1, w2, w3, w4) → W p l e rX5_restore s m args below meth c H locs 0 0 Q (F0 m 13 ls [.int v1, .ref A_t]) := by
    intro v1 hz_v1 H locs hP hD hS ls hl hg
    unfold g_X5_restore_J1 at hg
    obtain ⟨v3, v2, hq, hg⟩ := b2_ex hg
    refine callWVz (As := [.int v1]) (rest := []) (wr := [(A_t_s, .inl (cI, 77, .inl V_t_s)), (A_t_saved, .inl (cI, 462, .inl V_t_saved)), (A_t_snapshot, .inl (cI, 77, .inl V_t_snapshot))]) S hK hP hD hS hA (c_X5_holds l D cI cZ cB cJ A_t A_t_s A_t_aside A_t_snapshot A_t_saved A_t_text A_t_counts A_t_isCut A_t_strength A_t_fails A_t_why A_t_driver A_t_place A_t_isDone _ V_t_thrown V_t_isKept V_t_savedMany V_t_length V_t_position V_t_isWrong V_t_digested v1 v3 v2 hq) [0] [1, 2, 3] rfl rfl (by decide +kernel) (by decide +kernel) (by decide +kernel) (cwV 1 hts gX5_restore_X5_holds rfl rfl rfl hd_X5_holds ⟨Nat.le_of_ble_eq_true rfl, Nat.le_of_ble_eq_true rfl⟩) rfl rfl rfl hl.1 rfl (Nat.le_of_ble_eq_true rfl) dX5_restore_13 ⟨Nat.zero_le _, Nat.zero_le _⟩ (fun hz_v3 H locs hP hD hS => ?_)
    replace hP : va_P D vwCl [(A_t_s, .inl (cI, 77, .inl V_t_s)), (A_t_saved, .inl (cI, 462, .inl V_t_saved)), (A_t_snapshot, .inl (cI, 77, .inl V_t_snapshot)), (A_t, .inr (5, [.int v2, .ref A_t_s, .ref A_t_aside, .ref A_t_snapshot, .int V_t_isKept, .ref A_t_saved, .int V_t_savedMany, .ref A_t_text, .int V_t_length, .ref A_t_counts, .ref A_t_isCut, .ref A_t_strength, .ref A_t_fails, .ref A_t_why, .ref A_t_driver, .ref A_t_place, .ref A_t_isDone, .int V_t_position, .int V_t_isWrong, .long V_t_digested]))] H := hP
    replace hD : va_D A [(A_t_s, .inl (cI, 77, .inl V_t_s)), (A_t_saved, .inl (cI, 462, .inl V_t_saved)), (A_t_snapshot, .inl (cI, 77, .inl V_t_snapshot)), (A_t, .inr (5, [.int v2, .ref A_t_s, .ref A_t_aside, .ref A_t_snapshot, .int V_t_isKept, .ref A_t_saved, .int V_t_savedMany, .ref A_t_text, .int V_t_length, .ref A_t_counts, .ref A_t_isCut, .ref A_t_strength, .ref A_t_fails, .ref A_t_why, .ref A_t_driver, .ref A_t_place, .ref A_t_isDone, .int V_t_position, .int V_t_isWrong, .long V_t_digested]))] := hD
    refine lv_if_ne (tgt := 21) hx hb dX5_restore_16 (by decide) (fun hc => ?_) (fun hc => ?_)
    · replace hg := if_no hg hc
      refine lv_aload_n hx hb dX5_restore_21 rfl (lv_at hl 0 rfl) ?_
      obtain ⟨v4, f5, hq, hg⟩ := b2_ex hg
      refine callWVv (As := []) (rest := []) (wr := [(A_t_snapshot, .inl (cI, 77, .inl V_t_snapshot))]) S hK hP hD hS hA (c_X5_save l D cI cZ cB cJ A_t A_t_s A_t_aside A_t_snapshot A_t_saved A_t_text A_t_counts A_t_isCut A_t_strength A_t_fails A_t_why A_t_driver A_t_place A_t_isDone _ v2 V_t_isKept V_t_savedMany V_t_length V_t_position V_t_isWrong V_t_digested V_t_s V_t_saved v4 f5 hq) [3, 0, 1] [2] rfl rfl (by decide +kernel) (by decide +kernel) (by decide +kernel) (cwV 0 hts gX5_restore_X5_save rfl rfl rfl hd_X5_save ⟨Nat.le_of_ble_eq_true rfl, Nat.le_of_ble_eq_true rfl⟩) rfl rfl rfl hl.1 rfl (Nat.le_of_ble_eq_true rfl) dX5_restore_22 ⟨Nat.zero_le _, Nat.zero_le _⟩ (fun H locs hP hD hS => ?_)
      replace hP : va_P D vwCl [(A_t_snapshot, .inl (cI, 77, .inl V_t_snapshot)), (A_t, .inr (5, [.int v2, .ref A_t_s, .ref A_t_aside, .ref A_t_snapshot, .int V_t_isKept, .ref A_t_saved, .int v4, .ref A_t_text, .int V_t_length, .ref A_t_counts, .ref A_t_isCut, .ref A_t_strength, .ref A_t_fails, .ref A_t_why, .ref A_t_driver, .ref A_t_place, .ref A_t_isDone, .int V_t_position, .int V_t_isWrong, .long V_t_digested])), (A_t_s, .inl (cI, 77, .inl V_t_s)), (A_t_saved, .inl (cI, 462, .inl f5))] H := hP
      replace hD : va_D A [(A_t_snapshot, .inl (cI, 77, .inl V_t_snapshot)), (A_t, .inr (5, [.int v2, .ref A_t_s, .ref A_t_aside, .ref A_t_snapshot, .int V_t_isKept, .ref A_t_saved, .int v4, .ref A_t_text, .int V_t_length, .ref A_t_counts, .ref A_t_isCut, .ref A_t_strength, .ref A_t_fails, .ref A_t_why, .ref A_t_driver, .ref A_t_place, .ref A_t_isDone, .int V_t_position, .int V_t_isWrong, .long V_t_digested])), (A_t_s, .inl (cI, 77, .inl V_t_s)), (A_t_saved, .inl (cI, 462, .inl f5))] := hD
      refine lv_iconst (v := 0) hx hb dX5_restore_25 (by decide) ?_
      refine lv_istore_n (lv' := [(1, .int 0), (0, .ref A_t)]) hx hb dX5_restore_26 rfl hl (by decide) rfl (fun ls hl => ?_)
      obtain ⟨f10, hL, hg⟩ := bind_ex hg
      have kx : ∀ (H : Heap) (locs : List Loc), va_P D vwCl [(A_t_snapshot, .inl (cI, 77, .inl V_t_snapshot)), (A_t, .inr (5, [.int v2, .ref A_t_s, .ref A_t_aside, .ref A_t_snapshot, .int V_t_isKept, .ref A_t_saved, .int v4, .ref A_t_text, .int V_t_length, .ref A_t_counts, .ref A_t_isCut, .ref A_t_strength, .ref A_t_fails, .ref A_t_why, .ref A_t_driver, .ref A_t_place, .ref A_t_isDone, .int V_t_position, .int V_t_isWrong, .long V_t_digested])), (A_t_s, .inl (cI, 77, .inl f10)), (A_t_saved, .inl (cI, 462, .inl f5))] H → va_D A [(A_t_snapshot, .inl (cI, 77, .inl V_t_snapshot)), (A_t, .inr (5, [.int v2, .ref A_t_s, .ref A_t_aside, .ref A_t_snapshot, .int V_t_isKept, .ref A_t_saved, .int v4, .ref A_t_text, .int V_t_length, .ref A_t_counts, .ref A_t_isCut, .ref A_t_strength, .ref A_t_fails, .ref A_t_why, .ref A_t_driver, .ref A_t_place, .ref A_t_isDone, .int V_t_position, .int V_t_isWrong, .long V_t_digested])), (A_t_s, .inl (cI, 77, .inl f10)), (A_t_saved, .inl (cI, 462, .inl f5))] → va_S A s.heap H locs → ∀ ls : Array Slot, lv_has ls 2 [(0, .ref A_t)] → W p l e rX5_restore s m args below meth c H locs 0 0 Q (F0 m 51 ls []) := by
        intro H locs hP hD hS ls hl
        refine lv_aload_n hx hb dX5_restore_51 rfl (lv_at hl 0 rfl) ?_
        refine xget (ci := 5) (C := RX5) (T := TX5) (N := 20) (v := .ref A_t_s) hx hb hts in_X5_restore_X5 hown hK hP 1 rfl rfl 1 (by decide) wd_X5_restore_2 rfl dX5_restore_52 ?_
        refine lv_bipush (v := 9) hx hb dX5_restore_55 (by decide) ?_
        obtain ⟨v11, hin, hv, hg⟩ := rdA_ex hg
        refine xiald hx hb hK hP 2 rfl hin hv dX5_restore_57 ?_
        cases hg
        exact fin _ _ _ _ dX5_restore_58 (hP.sub [1, 2, 3, 0] rfl) (hD.sub [1, 2, 3, 0] (by decide) rfl) hS
      have L : ∀ (nf : Nat) (v6 : Int32) (f7 : Nat → Int32), ∀ (H : Heap) (locs : List Loc), va_P D vwCl [(A_t_snapshot, .inl (cI, 77, .inl V_t_snapshot)), (A_t, .inr (5, [.int v2, .ref A_t_s, .ref A_t_aside, .ref A_t_snapshot, .int V_t_isKept, .ref A_t_saved, .int v4, .ref A_t_text, .int V_t_length, .ref A_t_counts, .ref A_t_isCut, .ref A_t_strength, .ref A_t_fails, .ref A_t_why, .ref A_t_driver, .ref A_t_place, .ref A_t_isDone, .int V_t_position, .int V_t_isWrong, .long V_t_digested])), (A_t_s, .inl (cI, 77, .inl f7)), (A_t_saved, .inl (cI, 462, .inl f5))] H → va_D A [(A_t_snapshot, .inl (cI, 77, .inl V_t_snapshot)), (A_t, .inr (5, [.int v2, .ref A_t_s, .ref A_t_aside, .ref A_t_snapshot, .int V_t_isKept, .ref A_t_saved, .int v4, .ref A_t_text, .int V_t_length, .ref A_t_counts, .ref A_t_isCut, .ref A_t_strength, .ref A_t_fails, .ref A_t_why, .ref A_t_driver, .ref A_t_place, .ref A_t_isDone, .int V_t_position, .int V_t_isWrong, .long V_t_digested])), (A_t_s, .inl (cI, 77, .inl f7)), (A_t_saved, .inl (cI, 462, .inl f5))] → va_S A s.heap H locs → ∀ ls : Array Slot, lv_has ls 2 [(1, .int v6), (0, .ref A_t)] → g_X5_restore_L1 V_t_snapshot nf v6 f7 = some f10 → W p l e rX5_restore s m args below meth c H locs 0 0 Q (F0 m 27 ls []) := by
        intro nf
        induction nf with
        | zero =>
          intro v6 f7 H locs hP hD hS ls hl hg
          exact no_some hg
        | succ nf ih =>
          intro v6 f7 H locs hP hD hS ls hl hg
          rw [g_X5_restore_L1] at hg
          refine lv_iload_n hx hb dX5_restore_27 rfl (lv_at hl 0 rfl) ?_
          refine lv_bipush (v := 77) hx hb dX5_restore_28 (by decide) ?_
          refine lv_icmp_ge (tgt := 51) hx hb dX5_restore_30 (by decide) (fun hc => ?_) (fun hc => ?_)
          · replace hg := if_yes hg hc
            cases hg
            exact kx _ _ hP hD hS _ (lv_sub hl [1] rfl)
          · replace hg := if_no hg hc
            refine lv_aload_n hx hb dX5_restore_33 rfl (lv_at hl 1 rfl) ?_
            refine xget (ci := 5) (C := RX5) (T := TX5) (N := 20) (v := .ref A_t_s) hx hb hts in_X5_restore_X5 hown hK hP 1 rfl rfl 1 (by decide) wd_X5_restore_2 rfl dX5_restore_34 ?_
            refine lv_iload_n hx hb dX5_restore_37 rfl (lv_at hl 0 rfl) ?_
            refine lv_aload_n hx hb dX5_restore_38 rfl (lv_at hl 1 rfl) ?_
            refine xget (ci := 5) (C := RX5) (T := TX5) (N := 20) (v := .ref A_t_snapshot) hx hb hts in_X5_restore_X5 hown hK hP 1 rfl rfl 3 (by decide) wd_X5_restore_3 rfl dX5_restore_39 ?_
            refine lv_iload_n hx hb dX5_restore_42 rfl (lv_at hl 0 rfl) ?_
            obtain ⟨v8, hin, hv, hg⟩ := rdA_ex hg
            refine xiald hx hb hK hP 0 rfl hin hv dX5_restore_43 ?_
            obtain ⟨f9, hin, hv, hg⟩ := wrA_ex hg
            refine xiast (ws2 := [(A_t_snapshot, .inl (cI, 77, .inl V_t_snapshot)), (A_t, .inr (5, [.int v2, .ref A_t_s, .ref A_t_aside, .ref A_t_snapshot, .int V_t_isKept, .ref A_t_saved, .int v4, .ref A_t_text, .int V_t_length, .ref A_t_counts, .ref A_t_isCut, .ref A_t_strength, .ref A_t_fails, .ref A_t_why, .ref A_t_driver, .ref A_t_place, .ref A_t_isDone, .int V_t_position, .int V_t_isWrong, .long V_t_digested])), (A_t_s, .inl (cI, 77, .inl f9)), (A_t_saved, .inl (cI, 462, .inl f5))]) hx hb hK hP hD hS 2 rfl hin hv rfl dX5_restore_44 (fun H locs hP hD hS => ?_)
            refine lv_iinc (v := (v6 + 1)) (lv' := [(1, .int (v6 + 1)), (0, .ref A_t)]) hx hb dX5_restore_45 hl (k := 0) rfl rfl (by decide) rfl (fun ls hl => ?_)
            refine lv_goto (tgt := 27) hx hb dX5_restore_48 (by decide) ?_
            exact ih _ _ _ _ hP hD hS _ (lv_sub hl [0, 1] rfl) hg
      exact L FU _ _ _ _ hP hD hS _ (lv_sub hl [0, 1] rfl) hL
    · replace hg := if_yes hg hc
      refine lv_iconst (v := 0) hx hb dX5_restore_19 (by decide) ?_
      cases hg
      exact fin _ _ _ _ dX5_restore_20 (hP.sub [3, 0, 1, 2] rfl) (hD.sub [3, 0, 1, 2] (by decide) rfl) hS
  refine lv_if_eq (tgt := 12) hx hb dX5_restore_5 (by decide) (fun hc => ?_) (fun hc => ?_)
  · replace hg := if_yes hg hc
    refine lv_iconst (v := 1) hx hb dX5_restore_12 (by decide) ?_
    exact hJ1 _ bo_1 _ _ hP hD hS _ (lv_sub hl [0] rfl) hg
  · replace hg := if_no hg hc
    refine lv_iconst (v := 0) hx hb dX5_restore_8 (by decide) ?_
    refine lv_goto (tgt := 13) hx hb dX5_restore_9 (by decide) ?_
    exact hJ1 _ bo_0 _ _ hP hD hS _ (lv_sub hl [0] rfl) hg
