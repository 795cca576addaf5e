theorem hd_X5_armyOf : yX5_armyOf.cls = RX5 ∧ yX5_armyOf.cls ≠ "java/lang/invoke/MethodHandle" ∧ yX5_armyOf.cls ≠ "java/lang/invoke/VarHandle" ∧ (parseMethodDescriptor yX5_armyOf.desc).map (fun d => d.parameters.length) = some 2 := by decide +kernel
abbrev rX5_armyOf : Room := { frames := 2, cells := 0, slots := 0, locals := 43 }
set_option maxHeartbeats 4000000 in
set_option maxRecDepth 100000 in
theorem c_X5_armyOf (l : Launch) (D : va_G) (cI cZ cB cJ : ClassId) (A_t : Nat) (A_t_s : Nat) (A_t_aside : Nat) (A_t_snapshot : Nat) (A_t_saved : Nat) (A_t_text : Nat) (A_t_counts : Nat) (A_t_isCut : Nat) (A_t_strength : Nat) (A_t_fails : Nat) (A_t_why : Nat) (A_t_driver : Nat) (A_t_place : Nat) (A_t_isDone : Nat) (sz : Nat) (V_t_thrown : Int32) (V_t_isKept : Int32) (V_t_savedMany : Int32) (V_t_length : Int32) (V_t_position : Int32) (V_t_isWrong : Int32) (V_t_digested : Int64) (V_t_s : Nat → Int32) (x1 : Int32) (x2 : Int32) (r0 : Int32) (w1 : Int32) (hg : g_X5_armyOf V_t_thrown V_t_s x1 x2 = some (r0, w1)) : Met l yX5_armyOf wsX5_armyOf rX5_armyOf (PcW D cI cZ cB cJ sz [(A_t, .inr (5, [.int V_t_thrown, .ref A_t_s, .ref A_t_aside, .ref A_t_snapshot, .int V_t_isKept, .ref A_t_saved, .int V_t_savedMany, .ref A_t_text, .int V_t_length, .ref A_t_counts, .ref A_t_isCut, .ref A_t_strength, .ref A_t_fails, .ref A_t_why, .ref A_t_driver, .ref A_t_place, .ref A_t_isDone, .int V_t_position, .int V_t_isWrong, .long V_t_digested])), (A_t_s, .inl (cI, 77, .inl V_t_s))] [.ref A_t, .int x1, .int x2]) (QWi D cI cZ cB cJ sz [(A_t, .inr (5, [.int V_t_thrown, .ref A_t_s, .ref A_t_aside, .ref A_t_snapshot, .int V_t_isKept, .ref A_t_saved, .int V_t_savedMany, .ref A_t_text, .int V_t_length, .ref A_t_counts, .ref A_t_isCut, .ref A_t_strength, .ref A_t_fails, .ref A_t_why, .ref A_t_driver, .ref A_t_place, .ref A_t_isDone, .int V_t_position, .int V_t_isWrong, .long V_t_digested])), (A_t_s, .inl (cI, 77, .inl V_t_s))] [(A_t, .inr (5, [.int w1, .ref A_t_s, .ref A_t_aside, .ref A_t_snapshot, .int V_t_isKept, .ref A_t_saved, .int V_t_savedMany, .ref A_t_text, .int V_t_length, .ref A_t_counts, .ref A_t_isCut, .ref A_t_strength, .ref A_t_fails, .ref A_t_why, .ref A_t_driver, .ref A_t_place, .ref A_t_isDone, .int V_t_position, .int V_t_isWrong, .long V_t_digested])), (A_t_s, .inl (cI, 77, .inl V_t_s))] r0) 0 0 (va_A [(A_t, .inr (5, [.int V_t_thrown, .ref A_t_s, .ref A_t_aside, .ref A_t_snapshot, .int V_t_isKept, .ref A_t_saved, .int V_t_savedMany, .ref A_t_text, .int V_t_length, .ref A_t_counts, .ref A_t_isCut, .ref A_t_strength, .ref A_t_fails, .ref A_t_why, .ref A_t_driver, .ref A_t_place, .ref A_t_isDone, .int V_t_position, .int V_t_isWrong, .long V_t_digested])), (A_t_s, .inl (cI, 77, .inl V_t_s))] sz) := by
  refine bodyWi (cc := cX5_armyOf) (maxL := 3) (lv := [(0, .ref A_t), (1, .int x1), (2, .int x2)]) (by decide) rfl (Nat.le_of_ble_eq_true rfl) rfl ?_
  intro p e s m args below meth c Q hx hb hml hown hts A hP hK hD hA hS fin ls hl
  replace hown : s.vm.findClass RX5 = some m.cls := hown
  have S : CallFix p m c cX5_armyOf 3 s args wsX5_armyOf RX5 := ⟨hx, hb, hml, hown, hts⟩
  unfold g_X5_armyOf at hg
  refine lv_aload_n hx hb dX5_armyOf_0 rfl (lv_at hl 0 rfl) ?_
  refine lv_aload_n hx hb dX5_armyOf_1 rfl (lv_at hl 0 rfl) ?_
  refine lv_iload_n hx hb dX5_armyOf_2 rfl (lv_at hl 1 rfl) ?_
  obtain ⟨v1, hq, hg⟩ := bind_ex hg
  refine callRVz (As := [.int x1]) (rest := [.ref A_t]) S hK hP (c_X5_isArmy l D cI cZ cB cJ A_t A_t_s A_t_aside A_t_snapshot A_t_saved A_t_text A_t_counts A_t_isCut A_t_strength A_t_fails A_t_why A_t_driver A_t_place A_t_isDone V_t_thrown V_t_isKept V_t_savedMany V_t_length V_t_position V_t_isWrong V_t_digested V_t_s x1 v1 hq) [0, 1] rfl (cwV 1 hts gX5_armyOf_X5_isArmy rfl rfl rfl hd_X5_isArmy ⟨Nat.le_of_ble_eq_true rfl, Nat.le_of_ble_eq_true rfl⟩) rfl rfl rfl hl.1 rfl (Nat.le_of_ble_eq_true rfl) dX5_armyOf_3 ⟨Nat.zero_le _, Nat.zero_le _⟩ (fun hz_v1 => ?_)
  have hJ1 : ∀ (v3 : Int32), ∀ (H : Heap) (locs : List Loc), va_P D vwCl [(A_t, .inr (5, [.int V_t_thrown, .ref A_t_s, .ref A_t_aside, .ref A_t_snapshot, .int V_t_isKept, .ref A_t_saved, .int V_t_savedMany, .ref A_t_text, .int V_t_length, .ref A_t_counts, .ref A_t_isCut, .ref A_t_strength, .ref A_t_fails, .ref A_t_why, .ref A_t_driver, .ref A_t_place, .ref A_t_isDone, .int V_t_position, .int V_t_isWrong, .long V_t_digested])), (A_t_s, .inl (cI, 77, .inl V_t_s))] H → va_D A [(A_t, .inr (5, [.int V_t_thrown, .ref A_t_s, .ref A_t_aside, .ref A_t_snapshot, .int V_t_isKept, .ref A_t_saved, .int V_t_savedMany, .ref A_t_text, .int V_t_length, .ref A_t_counts, .ref A_t_isCut, .ref A_t_strength, .ref A_t_fails, .ref A_t_why, .ref A_t_driver, .ref A_t_place, .ref A_t_isDone, .int V_t_position, .int V_t_isWrong, .long V_t_digested])), (A_t_s, .inl (cI, 77, .inl V_t_s))] → va_S A s.heap H locs → ∀ ls : Array Slot, lv_has ls 3 [(0, .ref A_t), (1, .int x1), (2, .int x2)] → g_X5_armyOf_J1 V_t_thrown V_t_s x1 x2 v3 = some (r0, w1) → W p l e rX5_armyOf s m args below meth c H locs 0 0 Q (F0 m 28 ls [.int v3, .ref A_t]) := by
    intro v3 H locs hP hD hS ls hl hg
    unfold g_X5_armyOf_J1 at hg
    obtain ⟨v5, v4, hq, hg⟩ := b2_ex hg
    refine callWVz (As := [.int v3]) (rest := []) (wr := [(A_t_s, .inl (cI, 77, .inl V_t_s))]) S hK hP hD hS hA (c_X5_holds l D cI cZ cB cJ A_t A_t_s A_t_aside A_t_snapshot A_t_saved A_t_text A_t_counts A_t_isCut A_t_strength A_t_fails A_t_why A_t_driver A_t_place A_t_isDone _ V_t_thrown V_t_isKept V_t_savedMany V_t_length V_t_position V_t_isWrong V_t_digested v3 v5 v4 hq) [0] [1] rfl rfl (by decide +kernel) (by decide +kernel) (by decide +kernel) (cwV 1 hts gX5_armyOf_X5_holds rfl rfl rfl hd_X5_holds ⟨Nat.le_of_ble_eq_true rfl, Nat.le_of_ble_eq_true rfl⟩) rfl rfl rfl hl.1 rfl (Nat.le_of_ble_eq_true rfl) dX5_armyOf_28 ⟨Nat.zero_le _, Nat.zero_le _⟩ (fun hz_v5 H locs hP hD hS => ?_)
    replace hP : va_P D vwCl [(A_t_s, .inl (cI, 77, .inl V_t_s)), (A_t, .inr (5, [.int v4, .ref A_t_s, .ref A_t_aside, .ref A_t_snapshot, .int V_t_isKept, .ref A_t_saved, .int V_t_savedMany, .ref A_t_text, .int V_t_length, .ref A_t_counts, .ref A_t_isCut, .ref A_t_strength, .ref A_t_fails, .ref A_t_why, .ref A_t_driver, .ref A_t_place, .ref A_t_isDone, .int V_t_position, .int V_t_isWrong, .long V_t_digested]))] H := hP
    replace hD : va_D A [(A_t_s, .inl (cI, 77, .inl V_t_s)), (A_t, .inr (5, [.int v4, .ref A_t_s, .ref A_t_aside, .ref A_t_snapshot, .int V_t_isKept, .ref A_t_saved, .int V_t_savedMany, .ref A_t_text, .int V_t_length, .ref A_t_counts, .ref A_t_isCut, .ref A_t_strength, .ref A_t_fails, .ref A_t_why, .ref A_t_driver, .ref A_t_place, .ref A_t_isDone, .int V_t_position, .int V_t_isWrong, .long V_t_digested]))] := hD
    refine lv_if_eq (tgt := 43) hx hb dX5_armyOf_31 (by decide) (fun hc => ?_) (fun hc => ?_)
    · replace hg := if_yes hg hc
      refine lv_iconst (v := 0) hx hb dX5_armyOf_43 (by decide) ?_
      cases hg
      exact fin _ _ _ _ dX5_armyOf_44 (hP.sub [1, 0] rfl) (hD.sub [1, 0] (by decide) rfl) hS
    · replace hg := if_no hg hc
      refine lv_aload_n hx hb dX5_armyOf_34 rfl (lv_at hl 0 rfl) ?_
      refine lv_iload_n hx hb dX5_armyOf_35 rfl (lv_at hl 1 rfl) ?_
      refine lv_iload_n hx hb dX5_armyOf_36 rfl (lv_at hl 2 rfl) ?_
      obtain ⟨v6, hq, hg⟩ := bind_ex hg
      refine callRVi (As := [.int x1, .int x2]) (rest := []) S hK hP (c_X5_of l D cI cZ cB cJ A_t A_t_s A_t_aside A_t_snapshot A_t_saved A_t_text A_t_counts A_t_isCut A_t_strength A_t_fails A_t_why A_t_driver A_t_place A_t_isDone v4 V_t_isKept V_t_savedMany V_t_length V_t_position V_t_isWrong V_t_digested V_t_s x1 x2 v6 hq) [1, 0] rfl (cwV 2 hts gX5_armyOf_X5_of rfl rfl rfl hd_X5_of ⟨Nat.le_of_ble_eq_true rfl, Nat.le_of_ble_eq_true rfl⟩) rfl rfl rfl hl.1 rfl (Nat.le_of_ble_eq_true rfl) dX5_armyOf_37 ⟨Nat.zero_le _, Nat.zero_le _⟩ ?_
      refine lv_goto (tgt := 44) hx hb dX5_armyOf_40 (by decide) ?_
      cases hg
      exact fin _ _ _ _ dX5_armyOf_44 (hP.sub [1, 0] rfl) (hD.sub [1, 0] (by decide) rfl) hS
  refine lv_if_ne (tgt := 13) hx hb dX5_armyOf_6 (by decide) (fun hc => ?_) (fun hc => ?_)
  · replace hg := if_no hg hc
    refine lv_iload_n hx hb dX5_armyOf_13 rfl (lv_at hl 2 rfl) ?_
    refine lv_iconst (v := 0) hx hb dX5_armyOf_14 (by decide) ?_
    refine lv_bipush (v := 6) hx hb dX5_armyOf_15 (by decide) ?_
    obtain ⟨v2, hq, hg⟩ := bind_ex hg
    refine callRSz (As := [.int x2, .int 0, .int 6]) (rest := [.ref A_t]) S hK hP (c_X5_in l D cI cZ cB cJ x2 0 6 v2 hq) [] rfl (va_cwS 3 hts gX5_armyOf_X5_in rfl rfl rfl hd_X5_in ⟨Nat.le_of_ble_eq_true rfl, Nat.le_of_ble_eq_true rfl⟩) rfl hl.1 rfl (Nat.le_of_ble_eq_true rfl) dX5_armyOf_17 ⟨Nat.zero_le _, Nat.zero_le _⟩ (fun hz_v2 => ?_)
    refine lv_if_ne (tgt := 27) hx hb dX5_armyOf_20 (by decide) (fun hc => ?_) (fun hc => ?_)
    · replace hg := if_no hg hc
      refine lv_iconst (v := 0) hx hb dX5_armyOf_27 (by decide) ?_
      exact hJ1 _ _ _ hP hD hS _ (lv_sub hl [0, 1, 2] rfl) hg
    · replace hg := if_yes hg hc
      refine lv_iconst (v := 2) hx hb dX5_armyOf_23 (by decide) ?_
      refine lv_goto (tgt := 28) hx hb dX5_armyOf_24 (by decide) ?_
      exact hJ1 _ _ _ hP hD hS _ (lv_sub hl [0, 1, 2] rfl) hg
  · replace hg := if_yes hg hc
    refine lv_iconst (v := 1) hx hb dX5_armyOf_9 (by decide) ?_
    refine lv_goto (tgt := 28) hx hb dX5_armyOf_10 (by decide) ?_
    exact hJ1 _ _ _ hP hD hS _ (lv_sub hl [0, 1, 2] rfl) hg
theorem hd_X5_neighbours : yX5_neighbours.cls ≠ "java/lang/invoke/MethodHandle" ∧ yX5_neighbours.cls ≠ "java/lang/invoke/VarHandle" ∧ (parseMethodDescriptor yX5_neighbours.desc).map (fun d => d.parameters.length) = some 1 := by decide +kernel
abbrev rX5_neighbours : Room := { frames := 1, cells := 0, slots := 0, locals := 22 }
set_option maxHeartbeats 4000000 in
set_option maxRecDepth 100000 in
theorem c_X5_neighbours (l : Launch) (D : va_G) (cI cZ cB cJ : ClassId) (x1 : Int32) (r0 : Int32) (hg : g_X5_neighbours x1 = some r0) : Met l yX5_neighbours wsX5_neighbours rX5_neighbours (PcR D cI cZ cB cJ [] [.int x1]) (vp_Si (fun r' => r' = r0 ∧ True)) 0 0 (fun _ => False) := by
  refine bodyRi (cc := cX5_neighbours) (maxL := 3) (lv := [(0, .int x1)]) (by decide) rfl (Nat.le_of_ble_eq_true rfl) rfl ?_
  intro p e s m args below meth c Q hx hb hml hown hts hP hK fin ls hl
  replace hown : s.vm.findClass RX5 = some m.cls := hown
  have S : CallFix p m c cX5_neighbours 3 s args wsX5_neighbours RX5 := ⟨hx, hb, hml, hown, hts⟩
  unfold g_X5_neighbours at hg
  refine lv_iconst (v := 0) hx hb dX5_neighbours_0 (by decide) ?_
  refine lv_istore_n (lv' := [(1, .int 0), (0, .int x1)]) hx hb dX5_neighbours_1 rfl hl (by decide) rfl (fun ls hl => ?_)
  refine lv_iconst (v := 0) hx hb dX5_neighbours_2 (by decide) ?_
  refine lv_istore_n (lv' := [(2, .int 0), (1, .int 0), (0, .int x1)]) hx hb dX5_neighbours_3 rfl hl (by decide) rfl (fun ls hl => ?_)
  obtain ⟨v4, hL, hg⟩ := bind_ex hg
  have kx : ∀ ls : Array Slot, lv_has ls 3 [(1, .int v4)] → W p l e rX5_neighbours s m args below meth c s.heap [] 0 0 Q (F0 m 34 ls []) := by
    intro ls hl
    refine lv_iload_n hx hb dX5_neighbours_34 rfl (lv_at hl 0 rfl) ?_
    cases hg
    exact fin _ _ dX5_neighbours_35
  have L : ∀ (nf : Nat) (v1 : Int32) (v2 : Int32), ∀ ls : Array Slot, lv_has ls 3 [(2, .int v2), (1, .int v1), (0, .int x1)] → g_X5_neighbours_L1 x1 nf v1 v2 = some v4 → W p l e rX5_neighbours s m args below meth c s.heap [] 0 0 Q (F0 m 4 ls []) := by
    intro nf
    induction nf with
    | zero =>
      intro v1 v2 ls hl hg
      exact no_some hg
    | succ nf ih =>
      intro v1 v2 ls hl hg
      rw [g_X5_neighbours_L1] at hg
      refine lv_iload_n hx hb dX5_neighbours_4 rfl (lv_at hl 0 rfl) ?_
      refine lv_bipush (v := 12) hx hb dX5_neighbours_5 (by decide) ?_
      refine lv_icmp_ge (tgt := 34) hx hb dX5_neighbours_7 (by decide) (fun hc => ?_) (fun hc => ?_)
      · replace hg := if_yes hg hc
        cases hg
        exact kx _ (lv_sub hl [1] rfl)
      · replace hg := if_no hg hc
        refine lv_iload_n hx hb dX5_neighbours_10 rfl (lv_at hl 1 rfl) ?_
        refine lv_iload_n hx hb dX5_neighbours_11 rfl (lv_at hl 2 rfl) ?_
        refine lv_iload_n hx hb dX5_neighbours_12 rfl (lv_at hl 0 rfl) ?_
        obtain ⟨v3, hq, hg⟩ := bind_ex hg
        refine callRSz (As := [.int x1, .int v2]) (rest := [.int v1]) S hK hP (c_X5_areNeighbours l D cI cZ cB cJ x1 v2 v3 hq) [] rfl (va_cwS 2 hts gX5_neighbours_X5_areNeighbours rfl rfl rfl hd_X5_areNeighbours ⟨Nat.le_of_ble_eq_true rfl, Nat.le_of_ble_eq_true rfl⟩) rfl hl.1 rfl (Nat.le_of_ble_eq_true rfl) dX5_neighbours_13 ⟨Nat.zero_le _, Nat.zero_le _⟩ (fun hz_v3 => ?_)
        refine lv_if_eq (tgt := 25) hx hb dX5_neighbours_16 (by decide) (fun hc => ?_) (fun hc => ?_)
        · replace hg := if_yes hg hc
          refine lv_iconst (v := 0) hx hb dX5_neighbours_25 (by decide) ?_
          refine lv_ior hx hb dX5_neighbours_26 ?_
          refine lv_istore_n (lv' := [(1, .int (v1 ||| 0)), (2, .int v2), (0, .int x1)]) hx hb dX5_neighbours_27 rfl hl (by decide) rfl (fun ls hl => ?_)
          refine lv_iinc (v := (v2 + 1)) (lv' := [(2, .int (v2 + 1)), (1, .int (v1 ||| 0)), (0, .int x1)]) hx hb dX5_neighbours_28 hl (k := 1) rfl rfl (by decide) rfl (fun ls hl => ?_)
          refine lv_goto (tgt := 4) hx hb dX5_neighbours_31 (by decide) ?_
          exact ih _ _ _ (lv_sub hl [0, 1, 2] rfl) hg
        · replace hg := if_no hg hc
          refine lv_iconst (v := 1) hx hb dX5_neighbours_19 (by decide) ?_
          refine lv_iload_n hx hb dX5_neighbours_20 rfl (lv_at hl 0 rfl) ?_
          refine lv_ishl hx hb dX5_neighbours_21 ?_
          refine lv_goto (tgt := 26) hx hb dX5_neighbours_22 (by decide) ?_
          refine lv_ior hx hb dX5_neighbours_26 ?_
          refine lv_istore_n (lv' := [(1, .int (v1 ||| (1 <<< (v2 &&& 31)))), (2, .int v2), (0, .int x1)]) hx hb dX5_neighbours_27 rfl hl (by decide) rfl (fun ls hl => ?_)
          refine lv_iinc (v := (v2 + 1)) (lv' := [(2, .int (v2 + 1)), (1, .int (v1 ||| (1 <<< (v2 &&& 31)))), (0, .int x1)]) hx hb dX5_neighbours_28 hl (k := 1) rfl rfl (by decide) rfl (fun ls hl => ?_)
          refine lv_goto (tgt := 4) hx hb dX5_neighbours_31 (by decide) ?_
          exact ih _ _ _ (lv_sub hl [0, 1, 2] rfl) hg
  exact L FU _ _ _ (lv_sub hl [0, 1, 2] rfl) hL
theorem hd_X5_seenBy : yX5_seenBy.cls = RX5 ∧ yX5_seenBy.cls ≠ "java/lang/invoke/MethodHandle" ∧ yX5_seenBy.cls ≠ "java/lang/invoke/VarHandle" ∧ (parseMethodDescriptor yX5_seenBy.desc).map (fun d => d.parameters.length) = some 1 := by decide +kernel
theorem in_X5_seenBy_X5 : ∀ w ∈ u_ws RX5 TX5 20, w ∈ wsX5_seenBy := fun _ h => List.mem_cons_of_mem _ (List.mem_append_right _ h)
theorem wd_X5_seenBy_1 : Cond.fieldLink RX5 7 "FogOrdersModel" "s" "[I" ∈ wsX5_seenBy := List.mem_of_getElem? (i := 1) rfl
abbrev rX5_seenBy : Room := { frames := 2, cells := 0, slots := 0, locals := 44 }
set_option maxHeartbeats 4000000 in
set_option maxRecDepth 100000 in
theorem c_X5_seenBy (l : Launch) (D : va_G) (cI cZ cB cJ : ClassId) (A_t : Nat) (A_t_s : Nat) (A_t_aside : Nat) (A_t_snapshot : Nat) (A_t_saved : Nat) (A_t_text : Nat) (A_t_counts : Nat) (A_t_isCut : Nat) (A_t_strength : Nat) (A_t_fails : Nat) (A_t_why : Nat) (A_t_driver : Nat) (A_t_place : Nat) (A_t_isDone : Nat) (V_t_thrown : Int32) (V_t_isKept : Int32) (V_t_savedMany : Int32) (V_t_length : Int32) (V_t_position : Int32) (V_t_isWrong : Int32) (V_t_digested : Int64) (V_t_s : Nat → Int32) (x1 : Int32) (r0 : Int32) (hg : g_X5_seenBy V_t_s x1 = some r0) : Met l yX5_seenBy wsX5_seenBy rX5_seenBy (PcR D cI cZ cB cJ [(A_t, .inr (5, [.int V_t_thrown, .ref A_t_s, .ref A_t_aside, .ref A_t_snapshot, .int V_t_isKept, .ref A_t_saved, .int V_t_savedMany, .ref A_t_text, .int V_t_length, .ref A_t_counts, .ref A_t_isCut, .ref A_t_strength, .ref A_t_fails, .ref A_t_why, .ref A_t_driver, .ref A_t_place, .ref A_t_isDone, .int V_t_position, .int V_t_isWrong, .long V_t_digested])), (A_t_s, .inl (cI, 77, .inl V_t_s))] [.ref A_t, .int x1]) (vp_Si (fun r' => r' = r0 ∧ True)) 0 0 (fun _ => False) := by
  refine bodyRi (cc := cX5_seenBy) (maxL := 4) (lv := [(0, .ref A_t), (1, .int x1)]) (by decide) rfl (Nat.le_of_ble_eq_true rfl) rfl ?_
  intro p e s m args below meth c Q hx hb hml hown hts hP hK fin ls hl
  replace hown : s.vm.findClass RX5 = some m.cls := hown
  have S : CallFix p m c cX5_seenBy 4 s args wsX5_seenBy RX5 := ⟨hx, hb, hml, hown, hts⟩
  unfold g_X5_seenBy at hg
  refine lv_iconst (v := 0) hx hb dX5_seenBy_0 (by decide) ?_
  refine lv_istore_n (lv' := [(2, .int 0), (0, .ref A_t), (1, .int x1)]) hx hb dX5_seenBy_1 rfl hl (by decide) rfl (fun ls hl => ?_)
  refine lv_iconst (v := 0) hx hb dX5_seenBy_2 (by decide) ?_
  refine lv_istore_n (lv' := [(3, .int 0), (2, .int 0), (0, .ref A_t), (1, .int x1)]) hx hb dX5_seenBy_3 rfl hl (by decide) rfl (fun ls hl => ?_)
  obtain ⟨v8, hL, hg⟩ := bind_ex hg
  have kx : ∀ ls : Array Slot, lv_has ls 4 [(2, .int v8)] → W p l e rX5_seenBy s m args below meth c s.heap [] 0 0 Q (F0 m 56 ls []) := by
    intro ls hl
    refine lv_iload_n hx hb dX5_seenBy_56 rfl (lv_at hl 0 rfl) ?_
    cases hg
    exact fin _ _ dX5_seenBy_57
  have L : ∀ (nf : Nat) (v1 : Int32) (v2 : Int32), ∀ ls : Array Slot, lv_has ls 4 [(3, .int v2), (2, .int v1), (0, .ref A_t), (1, .int x1)] → g_X5_seenBy_L1 V_t_s x1 nf v1 v2 = some v8 → W p l e rX5_seenBy s m args below meth c s.heap [] 0 0 Q (F0 m 4 ls []) := by
    intro nf
    induction nf with
    | zero =>
      intro v1 v2 ls hl hg
      exact no_some hg
    | succ nf ih =>
      intro v1 v2 ls hl hg
      rw [g_X5_seenBy_L1] at hg
      refine lv_iload_n hx hb dX5_seenBy_4 rfl (lv_at hl 0 rfl) ?_
      refine lv_aload_n hx hb dX5_seenBy_5 rfl (lv_at hl 2 rfl) ?_
      refine xget (ci := 5) (C := RX5) (T := TX5) (N := 20) (v := .ref A_t_s) hx hb hts in_X5_seenBy_X5 hown hK hP 0 rfl rfl 1 (by decide) wd_X5_seenBy_1 rfl dX5_seenBy_6 ?_
      refine lv_bipush (v := 9) hx hb dX5_seenBy_9 (by decide) ?_
      obtain ⟨v3, hin, hv, hg⟩ := rdA_ex hg
      refine xiald hx hb hK hP 1 rfl hin hv dX5_seenBy_11 ?_
      refine lv_icmp_ge (tgt := 56) hx hb dX5_seenBy_12 (by decide) (fun hc => ?_) (fun hc => ?_)
      · replace hg := if_yes hg hc
        cases hg
        exact kx _ (lv_sub hl [1] rfl)
      · replace hg := if_no hg hc
        refine lv_iload_n hx hb dX5_seenBy_15 rfl (lv_at hl 1 rfl) ?_
        refine lv_aload_n hx hb dX5_seenBy_16 rfl (lv_at hl 2 rfl) ?_
        refine lv_iload_n hx hb dX5_seenBy_17 rfl (lv_at hl 0 rfl) ?_
        refine lv_iconst (v := 0) hx hb dX5_seenBy_18 (by decide) ?_
        obtain ⟨v4, hq, hg⟩ := bind_ex hg
        refine callRVi (As := [.int v2, .int 0]) (rest := [.int v1]) S hK hP (c_X5_of l D cI cZ cB cJ A_t A_t_s A_t_aside A_t_snapshot A_t_saved A_t_text A_t_counts A_t_isCut A_t_strength A_t_fails A_t_why A_t_driver A_t_place A_t_isDone V_t_thrown V_t_isKept V_t_savedMany V_t_length V_t_position V_t_isWrong V_t_digested V_t_s v2 0 v4 hq) [0, 1] rfl (cwV 2 hts gX5_seenBy_X5_of rfl rfl rfl hd_X5_of ⟨Nat.le_of_ble_eq_true rfl, Nat.le_of_ble_eq_true rfl⟩) rfl rfl rfl hl.1 rfl (Nat.le_of_ble_eq_true rfl) dX5_seenBy_19 ⟨Nat.zero_le _, Nat.zero_le _⟩ ?_
        refine lv_iload_n hx hb dX5_seenBy_22 rfl (lv_at hl 3 rfl) ?_
        refine lv_icmp_ne (tgt := 47) hx hb dX5_seenBy_23 (by decide) (fun hc => ?_) (fun hc => ?_)
        · replace hg := if_no hg hc
          refine lv_iconst (v := 0) hx hb dX5_seenBy_47 (by decide) ?_
          refine lv_ior hx hb dX5_seenBy_48 ?_
          refine lv_istore_n (lv' := [(2, .int (v1 ||| 0)), (3, .int v2), (0, .ref A_t), (1, .int x1)]) hx hb dX5_seenBy_49 rfl hl (by decide) rfl (fun ls hl => ?_)
          refine lv_iinc (v := (v2 + 1)) (lv' := [(3, .int (v2 + 1)), (2, .int (v1 ||| 0)), (0, .ref A_t), (1, .int x1)]) hx hb dX5_seenBy_50 hl (k := 1) rfl rfl (by decide) rfl (fun ls hl => ?_)
          refine lv_goto (tgt := 4) hx hb dX5_seenBy_53 (by decide) ?_
          exact ih _ _ _ (lv_sub hl [0, 1, 2, 3] rfl) hg
        · replace hg := if_yes hg hc
          refine lv_iconst (v := 1) hx hb dX5_seenBy_26 (by decide) ?_
          refine lv_aload_n hx hb dX5_seenBy_27 rfl (lv_at hl 2 rfl) ?_
          refine lv_iload_n hx hb dX5_seenBy_28 rfl (lv_at hl 0 rfl) ?_
          refine lv_iconst (v := 1) hx hb dX5_seenBy_29 (by decide) ?_
          obtain ⟨v5, hq, hg⟩ := bind_ex hg
          refine callRVi (As := [.int v2, .int 1]) (rest := [.int 1, .int v1]) S hK hP (c_X5_of l D cI cZ cB cJ A_t A_t_s A_t_aside A_t_snapshot A_t_saved A_t_text A_t_counts A_t_isCut A_t_strength A_t_fails A_t_why A_t_driver A_t_place A_t_isDone V_t_thrown V_t_isKept V_t_savedMany V_t_length V_t_position V_t_isWrong V_t_digested V_t_s v2 1 v5 hq) [0, 1] rfl (cwV 2 hts gX5_seenBy_X5_of rfl rfl rfl hd_X5_of ⟨Nat.le_of_ble_eq_true rfl, Nat.le_of_ble_eq_true rfl⟩) rfl rfl rfl hl.1 rfl (Nat.le_of_ble_eq_true rfl) dX5_seenBy_30 ⟨Nat.zero_le _, Nat.zero_le _⟩ ?_
          refine lv_ishl hx hb dX5_seenBy_33 ?_
          refine lv_aload_n hx hb dX5_seenBy_34 rfl (lv_at hl 2 rfl) ?_
          refine lv_iload_n hx hb dX5_seenBy_35 rfl (lv_at hl 0 rfl) ?_
          refine lv_iconst (v := 1) hx hb dX5_seenBy_36 (by decide) ?_
          obtain ⟨v6, hq, hg⟩ := bind_ex hg
          refine callRVi (As := [.int v2, .int 1]) (rest := [.int (1 <<< (v5 &&& 31)), .int v1]) S hK hP (c_X5_of l D cI cZ cB cJ A_t A_t_s A_t_aside A_t_snapshot A_t_saved A_t_text A_t_counts A_t_isCut A_t_strength A_t_fails A_t_why A_t_driver A_t_place A_t_isDone V_t_thrown V_t_isKept V_t_savedMany V_t_length V_t_position V_t_isWrong V_t_digested V_t_s v2 1 v6 hq) [0, 1] rfl (cwV 2 hts gX5_seenBy_X5_of rfl rfl rfl hd_X5_of ⟨Nat.le_of_ble_eq_true rfl, Nat.le_of_ble_eq_true rfl⟩) rfl rfl rfl hl.1 rfl (Nat.le_of_ble_eq_true rfl) dX5_seenBy_37 ⟨Nat.zero_le _, Nat.zero_le _⟩ ?_
          obtain ⟨v7, hq, hg⟩ := bind_ex hg
          refine callRSi (As := [.int v6]) (rest := [.int (1 <<< (v5 &&& 31)), .int v1]) S hK hP (c_X5_neighbours l D cI cZ cB cJ v6 v7 hq) [] rfl (va_cwS 1 hts gX5_seenBy_X5_neighbours rfl rfl rfl hd_X5_neighbours ⟨Nat.le_of_ble_eq_true rfl, Nat.le_of_ble_eq_true rfl⟩) rfl hl.1 rfl (Nat.le_of_ble_eq_true rfl) dX5_seenBy_40 ⟨Nat.zero_le _, Nat.zero_le _⟩ ?_
          refine lv_ior hx hb dX5_seenBy_43 ?_
          refine lv_goto (tgt := 48) hx hb dX5_seenBy_44 (by decide) ?_
          refine lv_ior hx hb dX5_seenBy_48 ?_
          refine lv_istore_n (lv' := [(2, .int (v1 ||| ((1 <<< (v5 &&& 31)) ||| v7))), (3, .int v2), (0, .ref A_t), (1, .int x1)]) hx hb dX5_seenBy_49 rfl hl (by decide) rfl (fun ls hl => ?_)
          refine lv_iinc (v := (v2 + 1)) (lv' := [(3, .int (v2 + 1)), (2, .int (v1 ||| ((1 <<< (v5 &&& 31)) ||| v7))), (0, .ref A_t), (1, .int x1)]) hx hb dX5_seenBy_50 hl (k := 1) rfl rfl (by decide) rfl (fun ls hl => ?_)
          refine lv_goto (tgt := 4) hx hb dX5_seenBy_53 (by decide) ?_
          exact ih _ _ _ (lv_sub hl [0, 1, 2, 3] rfl) hg
  exact L FU _ _ _ (lv_sub hl [0, 1, 2, 3] rfl) hL
theorem hd_X5_toldOfField : yX5_toldOfField.cls = RX5 ∧ yX5_toldOfField.cls ≠ "java/lang/invoke/MethodHandle" ∧ yX5_toldOfField.cls ≠ "java/lang/invoke/VarHandle" ∧ (parseMethodDescriptor yX5_toldOfField.desc).map (fun d => d.parameters.length) = some 2 := by decide +kernel
theorem in_X5_toldOfField_X5 : ∀ w ∈ u_ws RX5 TX5 20, w ∈ wsX5_toldOfField := fun _ h => List.mem_cons_of_mem _ (List.mem_append_right _ h)
theorem wd_X5_toldOfField_1 : Cond.fieldLink RX5 7 "FogOrdersModel" "s" "[I" ∈ wsX5_toldOfField := List.mem_of_getElem? (i := 1) rfl
abbrev rX5_toldOfField : Room := { frames := 3, cells := 0, slots := 0, locals := 67 }
set_option maxHeartbeats 4000000 in
set_option maxRecDepth 100000 in
theorem c_X5_toldOfField (l : Launch) (D : va_G) (cI cZ cB cJ : ClassId) (A_t : Nat) (A_t_s : Nat) (A_t_aside : Nat) (A_t_snapshot : Nat) (A_t_saved : Nat) (A_t_text : Nat) (A_t_counts : Nat) (A_t_isCut : Nat) (A_t_strength : Nat) (A_t_fails : Nat) (A_t_why : Nat) (A_t_driver : Nat) (A_t_place : Nat) (A_t_isDone : Nat) (V_t_thrown : Int32) (V_t_isKept : Int32) (V_t_savedMany : Int32) (V_t_length : Int32) (V_t_position : Int32) (V_t_isWrong : Int32) (V_t_digested : Int64) (V_t_s : Nat → Int32) (x1 : Int32) (x2 : Int32) (r0 : Int32) (hg : g_X5_toldOfField V_t_s x1 x2 = some r0) : Met l yX5_toldOfField wsX5_toldOfField rX5_toldOfField (PcR D cI cZ cB cJ [(A_t, .inr (5, [.int V_t_thrown, .ref A_t_s, .ref A_t_aside, .ref A_t_snapshot, .int V_t_isKept, .ref A_t_saved, .int V_t_savedMany, .ref A_t_text, .int V_t_length, .ref A_t_counts, .ref A_t_isCut, .ref A_t_strength, .ref A_t_fails, .ref A_t_why, .ref A_t_driver, .ref A_t_place, .ref A_t_isDone, .int V_t_position, .int V_t_isWrong, .long V_t_digested])), (A_t_s, .inl (cI, 77, .inl V_t_s))] [.ref A_t, .int x1, .int x2]) (vp_Si (fun r' => r' = r0 ∧ True)) 0 0 (fun _ => False) := by
  refine bodyRi (cc := cX5_toldOfField) (maxL := 3) (lv := [(0, .ref A_t), (1, .int x1), (2, .int x2)]) (by decide) rfl (Nat.le_of_ble_eq_true rfl) rfl ?_
  intro p e s m args below meth c Q hx hb hml hown hts hP hK fin ls hl
  replace hown : s.vm.findClass RX5 = some m.cls := hown
  have S : CallFix p m c cX5_toldOfField 3 s args wsX5_toldOfField RX5 := ⟨hx, hb, hml, hown, hts⟩
  unfold g_X5_toldOfField at hg
  refine lv_iload_n hx hb dX5_toldOfField_0 rfl (lv_at hl 2 rfl) ?_
  by_cases hk0 : x2 = 0
  · replace hg := if_yes hg hk0
    refine lv_tableIn (off := 31) (tgt := 32) hx hb dX5_toldOfField_1 (by rw [hk0]; decide) (by rw [hk0]; decide) (by rw [hk0]; decide) (by decide) ?_
    refine lv_aload_n hx hb dX5_toldOfField_32 rfl (lv_at hl 0 rfl) ?_
    refine lv_iload_n hx hb dX5_toldOfField_33 rfl (lv_at hl 1 rfl) ?_
    obtain ⟨v1, hq, hg⟩ := bind_ex hg
    refine callRVi (As := [.int x1]) (rest := []) S hK hP (c_X5_armyOn l D cI cZ cB cJ A_t A_t_s A_t_aside A_t_snapshot A_t_saved A_t_text A_t_counts A_t_isCut A_t_strength A_t_fails A_t_why A_t_driver A_t_place A_t_isDone V_t_thrown V_t_isKept V_t_savedMany V_t_length V_t_position V_t_isWrong V_t_digested V_t_s x1 v1 hq) [0, 1] rfl (cwV 1 hts gX5_toldOfField_X5_armyOn rfl rfl rfl hd_X5_armyOn ⟨Nat.le_of_ble_eq_true rfl, Nat.le_of_ble_eq_true rfl⟩) rfl rfl rfl hl.1 rfl (Nat.le_of_ble_eq_true rfl) dX5_toldOfField_34 ⟨Nat.zero_le _, Nat.zero_le _⟩ ?_
    cases hg
    exact fin _ _ dX5_toldOfField_37
  · replace hg := if_no hg hk0
    by_cases hk1 : x2 = 1
    · replace hg := if_yes hg hk1
      refine lv_tableIn (off := 37) (tgt := 38) hx hb dX5_toldOfField_1 (by rw [hk1]; decide) (by rw [hk1]; decide) (by rw [hk1]; decide) (by decide) ?_
      refine lv_iload_n hx hb dX5_toldOfField_38 rfl (lv_at hl 1 rfl) ?_
      refine lv_iconst (v := 3) hx hb dX5_toldOfField_39 (by decide) ?_
      refine lv_irem hx hb dX5_toldOfField_40 (by decide) ?_
      refine lv_if_ne (tgt := 48) hx hb dX5_toldOfField_41 (by decide) (fun hc => ?_) (fun hc => ?_)
      · replace hg := if_no hg hc
        refine lv_iconst (v := 0) hx hb dX5_toldOfField_48 (by decide) ?_
        cases hg
        exact fin _ _ dX5_toldOfField_49
      · replace hg := if_yes hg hc
        refine lv_iconst (v := 1) hx hb dX5_toldOfField_44 (by decide) ?_
        refine lv_goto (tgt := 49) hx hb dX5_toldOfField_45 (by decide) ?_
        cases hg
        exact fin _ _ dX5_toldOfField_49
    · replace hg := if_no hg hk1
      by_cases hk2 : x2 = 2
      · replace hg := if_yes hg hk2
        refine lv_tableIn (off := 49) (tgt := 50) hx hb dX5_toldOfField_1 (by rw [hk2]; decide) (by rw [hk2]; decide) (by rw [hk2]; decide) (by decide) ?_
        refine lv_iload_n hx hb dX5_toldOfField_50 rfl (lv_at hl 1 rfl) ?_
        refine lv_iconst (v := 3) hx hb dX5_toldOfField_51 (by decide) ?_
        refine lv_irem hx hb dX5_toldOfField_52 (by decide) ?_
        refine lv_if_ne (tgt := 70) hx hb dX5_toldOfField_53 (by decide) (fun hc => ?_) (fun hc => ?_)
        · replace hg := if_no hg hc
          refine lv_iconst (v := (-1)) hx hb dX5_toldOfField_70 (by decide) ?_
          cases hg
          exact fin _ _ dX5_toldOfField_71
        · replace hg := if_yes hg hc
          refine lv_aload_n hx hb dX5_toldOfField_56 rfl (lv_at hl 0 rfl) ?_
          refine xget (ci := 5) (C := RX5) (T := TX5) (N := 20) (v := .ref A_t_s) hx hb hts in_X5_toldOfField_X5 hown hK hP 0 rfl rfl 1 (by decide) wd_X5_toldOfField_1 rfl dX5_toldOfField_57 ?_
          refine lv_bipush (v := 10) hx hb dX5_toldOfField_60 (by decide) ?_
          refine lv_iload_n hx hb dX5_toldOfField_62 rfl (lv_at hl 1 rfl) ?_
          refine lv_iconst (v := 3) hx hb dX5_toldOfField_63 (by decide) ?_
          refine lv_idiv hx hb dX5_toldOfField_64 (by decide) ?_
          refine lv_iadd hx hb dX5_toldOfField_65 ?_
          obtain ⟨v2, hin, hv, hg⟩ := rdA_ex hg
          refine xiald hx hb hK hP 1 rfl hin hv dX5_toldOfField_66 ?_
          refine lv_goto (tgt := 71) hx hb dX5_toldOfField_67 (by decide) ?_
          cases hg
          exact fin _ _ dX5_toldOfField_71
      · replace hg := if_no hg hk2
        by_cases hk3 : x2 = 3
        · replace hg := if_yes hg hk3
          refine lv_tableIn (off := 71) (tgt := 72) hx hb dX5_toldOfField_1 (by rw [hk3]; decide) (by rw [hk3]; decide) (by rw [hk3]; decide) (by decide) ?_
          refine lv_aload_n hx hb dX5_toldOfField_72 rfl (lv_at hl 0 rfl) ?_
          refine lv_iconst (v := 0) hx hb dX5_toldOfField_73 (by decide) ?_
          obtain ⟨v3, hq, hg⟩ := bind_ex hg
          refine callRVi (As := [.int 0]) (rest := []) S hK hP (c_X5_seenBy l D cI cZ cB cJ A_t A_t_s A_t_aside A_t_snapshot A_t_saved A_t_text A_t_counts A_t_isCut A_t_strength A_t_fails A_t_why A_t_driver A_t_place A_t_isDone V_t_thrown V_t_isKept V_t_savedMany V_t_length V_t_position V_t_isWrong V_t_digested V_t_s 0 v3 hq) [0, 1] rfl (cwV 1 hts gX5_toldOfField_X5_seenBy rfl rfl rfl hd_X5_seenBy ⟨Nat.le_of_ble_eq_true rfl, Nat.le_of_ble_eq_true rfl⟩) rfl rfl rfl hl.1 rfl (Nat.le_of_ble_eq_true rfl) dX5_toldOfField_74 ⟨Nat.zero_le _, Nat.zero_le _⟩ ?_
          refine lv_iload_n hx hb dX5_toldOfField_77 rfl (lv_at hl 1 rfl) ?_
          refine lv_ishr hx hb dX5_toldOfField_78 ?_
          refine lv_iconst (v := 1) hx hb dX5_toldOfField_79 (by decide) ?_
          refine lv_iand hx hb dX5_toldOfField_80 ?_
          refine lv_iconst (v := 2) hx hb dX5_toldOfField_81 (by decide) ?_
          refine lv_aload_n hx hb dX5_toldOfField_82 rfl (lv_at hl 0 rfl) ?_
          refine lv_iconst (v := 1) hx hb dX5_toldOfField_83 (by decide) ?_
          obtain ⟨v4, hq, hg⟩ := bind_ex hg
          refine callRVi (As := [.int 1]) (rest := [.int 2, .int ((v3 >>> (x1 &&& 31)) &&& 1)]) S hK hP (c_X5_seenBy l D cI cZ cB cJ A_t A_t_s A_t_aside A_t_snapshot A_t_saved A_t_text A_t_counts A_t_isCut A_t_strength A_t_fails A_t_why A_t_driver A_t_place A_t_isDone V_t_thrown V_t_isKept V_t_savedMany V_t_length V_t_position V_t_isWrong V_t_digested V_t_s 1 v4 hq) [0, 1] rfl (cwV 1 hts gX5_toldOfField_X5_seenBy rfl rfl rfl hd_X5_seenBy ⟨Nat.le_of_ble_eq_true rfl, Nat.le_of_ble_eq_true rfl⟩) rfl rfl rfl hl.1 rfl (Nat.le_of_ble_eq_true rfl) dX5_toldOfField_84 ⟨Nat.zero_le _, Nat.zero_le _⟩ ?_
          refine lv_iload_n hx hb dX5_toldOfField_87 rfl (lv_at hl 1 rfl) ?_
          refine lv_ishr hx hb dX5_toldOfField_88 ?_
          refine lv_iconst (v := 1) hx hb dX5_toldOfField_89 (by decide) ?_
          refine lv_iand hx hb dX5_toldOfField_90 ?_
          refine lv_imul hx hb dX5_toldOfField_91 ?_
          refine lv_iadd hx hb dX5_toldOfField_92 ?_
          refine lv_iconst (v := 4) hx hb dX5_toldOfField_93 (by decide) ?_
          refine lv_aload_n hx hb dX5_toldOfField_94 rfl (lv_at hl 0 rfl) ?_
          refine lv_iconst (v := 2) hx hb dX5_toldOfField_95 (by decide) ?_
          obtain ⟨v5, hq, hg⟩ := bind_ex hg
          refine callRVi (As := [.int 2]) (rest := [.int 4, .int (((v3 >>> (x1 &&& 31)) &&& 1) + (2 * ((v4 >>> (x1 &&& 31)) &&& 1)))]) S hK hP (c_X5_seenBy l D cI cZ cB cJ A_t A_t_s A_t_aside A_t_snapshot A_t_saved A_t_text A_t_counts A_t_isCut A_t_strength A_t_fails A_t_why A_t_driver A_t_place A_t_isDone V_t_thrown V_t_isKept V_t_savedMany V_t_length V_t_position V_t_isWrong V_t_digested V_t_s 2 v5 hq) [0, 1] rfl (cwV 1 hts gX5_toldOfField_X5_seenBy rfl rfl rfl hd_X5_seenBy ⟨Nat.le_of_ble_eq_true rfl, Nat.le_of_ble_eq_true rfl⟩) rfl rfl rfl hl.1 rfl (Nat.le_of_ble_eq_true rfl) dX5_toldOfField_96 ⟨Nat.zero_le _, Nat.zero_le _⟩ ?_
          refine lv_iload_n hx hb dX5_toldOfField_99 rfl (lv_at hl 1 rfl) ?_
          refine lv_ishr hx hb dX5_toldOfField_100 ?_
          refine lv_iconst (v := 1) hx hb dX5_toldOfField_101 (by decide) ?_
          refine lv_iand hx hb dX5_toldOfField_102 ?_
          refine lv_imul hx hb dX5_toldOfField_103 ?_
          refine lv_iadd hx hb dX5_toldOfField_104 ?_
          cases hg
          exact fin _ _ dX5_toldOfField_105
        · replace hg := if_no hg hk3
          refine lv_tableOut (tgt := 106) hx hb dX5_toldOfField_1 (sw_out (fun k h1 h2 => by rcases (show k = 0 ∨ k = 1 ∨ k = 2 ∨ k = 3 by omega) with rfl | rfl | rfl | rfl <;> first | exact hk0 | exact hk1 | exact hk2 | exact hk3)) (by decide) ?_
          refine lv_iload_n hx hb dX5_toldOfField_106 rfl (lv_at hl 1 rfl) ?_
          obtain ⟨v6, hq, hg⟩ := bind_ex hg
          refine callRSi (As := [.int x1]) (rest := []) S hK hP (c_X5_neighbours l D cI cZ cB cJ x1 v6 hq) [] rfl (va_cwS 1 hts gX5_toldOfField_X5_neighbours rfl rfl rfl hd_X5_neighbours ⟨Nat.le_of_ble_eq_true rfl, Nat.le_of_ble_eq_true rfl⟩) rfl hl.1 rfl (Nat.le_of_ble_eq_true rfl) dX5_toldOfField_107 ⟨Nat.zero_le _, Nat.zero_le _⟩ ?_
          cases hg
          exact fin _ _ dX5_toldOfField_110
theorem hd_X5_field : yX5_field.cls = RX5 ∧ yX5_field.cls ≠ "java/lang/invoke/MethodHandle" ∧ yX5_field.cls ≠ "java/lang/invoke/VarHandle" ∧ (parseMethodDescriptor yX5_field.desc).map (fun d => d.parameters.length) = some 2 := by decide +kernel
abbrev rX5_field : Room := { frames := 4, cells := 0, slots := 0, locals := 89 }
set_option maxHeartbeats 4000000 in
set_option maxRecDepth 100000 in
theorem c_X5_field (l : Launch) (D : va_G) (cI cZ cB cJ : ClassId) (A_t : Nat) (A_t_s : Nat) (A_t_aside : Nat) (A_t_snapshot : Nat) (A_t_saved : Nat) (A_t_text : Nat) (A_t_counts : Nat) (A_t_isCut : Nat) (A_t_strength : Nat) (A_t_fails : Nat) (A_t_why : Nat) (A_t_driver : Nat) (A_t_place : Nat) (A_t_isDone : Nat) (sz : Nat) (V_t_thrown : Int32) (V_t_isKept : Int32) (V_t_savedMany : Int32) (V_t_length : Int32) (V_t_position : Int32) (V_t_isWrong : Int32) (V_t_digested : Int64) (V_t_s : Nat → Int32) (x1 : Int32) (x2 : Int32) (r0 : Int32) (w1 : Int32) (hg : g_X5_field V_t_thrown V_t_s x1 x2 = some (r0, w1)) : Met l yX5_field wsX5_field rX5_field (PcW D cI cZ cB cJ sz [(A_t, .inr (5, [.int V_t_thrown, .ref A_t_s, .ref A_t_aside, .ref A_t_snapshot, .int V_t_isKept, .ref A_t_saved, .int V_t_savedMany, .ref A_t_text, .int V_t_length, .ref A_t_counts, .ref A_t_isCut, .ref A_t_strength, .ref A_t_fails, .ref A_t_why, .ref A_t_driver, .ref A_t_place, .ref A_t_isDone, .int V_t_position, .int V_t_isWrong, .long V_t_digested])), (A_t_s, .inl (cI, 77, .inl V_t_s))] [.ref A_t, .int x1, .int x2]) (QWi D cI cZ cB cJ sz [(A_t, .inr (5, [.int V_t_thrown, .ref A_t_s, .ref A_t_aside, .ref A_t_snapshot, .int V_t_isKept, .ref A_t_saved, .int V_t_savedMany, .ref A_t_text, .int V_t_length, .ref A_t_counts, .ref A_t_isCut, .ref A_t_strength, .ref A_t_fails, .ref A_t_why, .ref A_t_driver, .ref A_t_place, .ref A_t_isDone, .int V_t_position, .int V_t_isWrong, .long V_t_digested])), (A_t_s, .inl (cI, 77, .inl V_t_s))] [(A_t, .inr (5, [.int w1, .ref A_t_s, .ref A_t_aside, .ref A_t_snapshot, .int V_t_isKept, .ref A_t_saved, .int V_t_savedMany, .ref A_t_text, .int V_t_length, .ref A_t_counts, .ref A_t_isCut, .ref A_t_strength, .ref A_t_fails, .ref A_t_why, .ref A_t_driver, .ref A_t_place, .ref A_t_isDone, .int V_t_position, .int V_t_isWrong, .long V_t_digested])), (A_t_s, .inl (cI, 77, .inl V_t_s))] r0) 0 0 (va_A [(A_t, .inr (5, [.int V_t_thrown, .ref A_t_s, .ref A_t_aside, .ref A_t_snapshot, .int V_t_isKept, .ref A_t_saved, .int V_t_savedMany, .ref A_t_text, .int V_t_length, .ref A_t_counts, .ref A_t_isCut, .ref A_t_strength, .ref A_t_fails, .ref A_t_why, .ref A_t_driver, .ref A_t_place, .ref A_t_isDone, .int V_t_position, .int V_t_isWrong, .long V_t_digested])), (A_t_s, .inl (cI, 77, .inl V_t_s))] sz) := by
  refine bodyWi (cc := cX5_field) (maxL := 3) (lv := [(0, .ref A_t), (1, .int x1), (2, .int x2)]) (by decide) rfl (Nat.le_of_ble_eq_true rfl) rfl ?_
  intro p e s m args below meth c Q hx hb hml hown hts A hP hK hD hA hS fin ls hl
  replace hown : s.vm.findClass RX5 = some m.cls := hown
  have S : CallFix p m c cX5_field 3 s args wsX5_field RX5 := ⟨hx, hb, hml, hown, hts⟩
  unfold g_X5_field at hg
  refine lv_aload_n hx hb dX5_field_0 rfl (lv_at hl 0 rfl) ?_
  refine lv_iload_n hx hb dX5_field_1 rfl (lv_at hl 1 rfl) ?_
  obtain ⟨v1, hq, hg⟩ := bind_ex hg
  refine callRSz (As := [.int x1]) (rest := [.ref A_t]) S hK hP (c_X5_isField l D cI cZ cB cJ x1 v1 hq) [] rfl (va_cwS 1 hts gX5_field_X5_isField rfl rfl rfl hd_X5_isField ⟨Nat.le_of_ble_eq_true rfl, Nat.le_of_ble_eq_true rfl⟩) rfl hl.1 rfl (Nat.le_of_ble_eq_true rfl) dX5_field_2 ⟨Nat.zero_le _, Nat.zero_le _⟩ (fun hz_v1 => ?_)
  have hJ1 : ∀ (v3 : Int32), ∀ (H : Heap) (locs : List Loc), va_P D vwCl [(A_t, .inr (5, [.int V_t_thrown, .ref A_t_s, .ref A_t_aside, .ref A_t_snapshot, .int V_t_isKept, .ref A_t_saved, .int V_t_savedMany, .ref A_t_text, .int V_t_length, .ref A_t_counts, .ref A_t_isCut, .ref A_t_strength, .ref A_t_fails, .ref A_t_why, .ref A_t_driver, .ref A_t_place, .ref A_t_isDone, .int V_t_position, .int V_t_isWrong, .long V_t_digested])), (A_t_s, .inl (cI, 77, .inl V_t_s))] H → va_D A [(A_t, .inr (5, [.int V_t_thrown, .ref A_t_s, .ref A_t_aside, .ref A_t_snapshot, .int V_t_isKept, .ref A_t_saved, .int V_t_savedMany, .ref A_t_text, .int V_t_length, .ref A_t_counts, .ref A_t_isCut, .ref A_t_strength, .ref A_t_fails, .ref A_t_why, .ref A_t_driver, .ref A_t_place, .ref A_t_isDone, .int V_t_position, .int V_t_isWrong, .long V_t_digested])), (A_t_s, .inl (cI, 77, .inl V_t_s))] → va_S A s.heap H locs → ∀ ls : Array Slot, lv_has ls 3 [(0, .ref A_t), (1, .int x1), (2, .int x2)] → g_X5_field_J1 V_t_thrown V_t_s x1 x2 v3 = some (r0, w1) → W p l e rX5_field s m args below meth c H locs 0 0 Q (F0 m 26 ls [.int v3, .ref A_t]) := by
    intro v3 H locs hP hD hS ls hl hg
    unfold g_X5_field_J1 at hg
    obtain ⟨v5, v4, hq, hg⟩ := b2_ex hg
    refine callWVz (As := [.int v3]) (rest := []) (wr := [(A_t_s, .inl (cI, 77, .inl V_t_s))]) S hK hP hD hS hA (c_X5_holds l D cI cZ cB cJ A_t A_t_s A_t_aside A_t_snapshot A_t_saved A_t_text A_t_counts A_t_isCut A_t_strength A_t_fails A_t_why A_t_driver A_t_place A_t_isDone _ V_t_thrown V_t_isKept V_t_savedMany V_t_length V_t_position V_t_isWrong V_t_digested v3 v5 v4 hq) [0] [1] rfl rfl (by decide +kernel) (by decide +kernel) (by decide +kernel) (cwV 1 hts gX5_field_X5_holds rfl rfl rfl hd_X5_holds ⟨Nat.le_of_ble_eq_true rfl, Nat.le_of_ble_eq_true rfl⟩) rfl rfl rfl hl.1 rfl (Nat.le_of_ble_eq_true rfl) dX5_field_26 ⟨Nat.zero_le _, Nat.zero_le _⟩ (fun hz_v5 H locs hP hD hS => ?_)
    replace hP : va_P D vwCl [(A_t_s, .inl (cI, 77, .inl V_t_s)), (A_t, .inr (5, [.int v4, .ref A_t_s, .ref A_t_aside, .ref A_t_snapshot, .int V_t_isKept, .ref A_t_saved, .int V_t_savedMany, .ref A_t_text, .int V_t_length, .ref A_t_counts, .ref A_t_isCut, .ref A_t_strength, .ref A_t_fails, .ref A_t_why, .ref A_t_driver, .ref A_t_place, .ref A_t_isDone, .int V_t_position, .int V_t_isWrong, .long V_t_digested]))] H := hP
    replace hD : va_D A [(A_t_s, .inl (cI, 77, .inl V_t_s)), (A_t, .inr (5, [.int v4, .ref A_t_s, .ref A_t_aside, .ref A_t_snapshot, .int V_t_isKept, .ref A_t_saved, .int V_t_savedMany, .ref A_t_text, .int V_t_length, .ref A_t_counts, .ref A_t_isCut, .ref A_t_strength, .ref A_t_fails, .ref A_t_why, .ref A_t_driver, .ref A_t_place, .ref A_t_isDone, .int V_t_position, .int V_t_isWrong, .long V_t_digested]))] := hD
    refine lv_if_eq (tgt := 41) hx hb dX5_field_29 (by decide) (fun hc => ?_) (fun hc => ?_)
    · replace hg := if_yes hg hc
      refine lv_iconst (v := 0) hx hb dX5_field_41 (by decide) ?_
      cases hg
      exact fin _ _ _ _ dX5_field_42 (hP.sub [1, 0] rfl) (hD.sub [1, 0] (by decide) rfl) hS
    · replace hg := if_no hg hc
      refine lv_aload_n hx hb dX5_field_32 rfl (lv_at hl 0 rfl) ?_
      refine lv_iload_n hx hb dX5_field_33 rfl (lv_at hl 1 rfl) ?_
      refine lv_iload_n hx hb dX5_field_34 rfl (lv_at hl 2 rfl) ?_
      obtain ⟨v6, hq, hg⟩ := bind_ex hg
      refine callRVi (As := [.int x1, .int x2]) (rest := []) S hK hP (c_X5_toldOfField l D cI cZ cB cJ A_t A_t_s A_t_aside A_t_snapshot A_t_saved A_t_text A_t_counts A_t_isCut A_t_strength A_t_fails A_t_why A_t_driver A_t_place A_t_isDone v4 V_t_isKept V_t_savedMany V_t_length V_t_position V_t_isWrong V_t_digested V_t_s x1 x2 v6 hq) [1, 0] rfl (cwV 2 hts gX5_field_X5_toldOfField rfl rfl rfl hd_X5_toldOfField ⟨Nat.le_of_ble_eq_true rfl, Nat.le_of_ble_eq_true rfl⟩) rfl rfl rfl hl.1 rfl (Nat.le_of_ble_eq_true rfl) dX5_field_35 ⟨Nat.zero_le _, Nat.zero_le _⟩ ?_
      refine lv_goto (tgt := 42) hx hb dX5_field_38 (by decide) ?_
      cases hg
      exact fin _ _ _ _ dX5_field_42 (hP.sub [1, 0] rfl) (hD.sub [1, 0] (by decide) rfl) hS
  refine lv_if_ne (tgt := 12) hx hb dX5_field_5 (by decide) (fun hc => ?_) (fun hc => ?_)
  · replace hg := if_no hg hc
    refine lv_iload_n hx hb dX5_field_12 rfl (lv_at hl 2 rfl) ?_
    refine lv_iconst (v := 0) hx hb dX5_field_13 (by decide) ?_
    refine lv_iconst (v := 4) hx hb dX5_field_14 (by decide) ?_
    obtain ⟨v2, hq, hg⟩ := bind_ex hg
    refine callRSz (As := [.int x2, .int 0, .int 4]) (rest := [.ref A_t]) S hK hP (c_X5_in l D cI cZ cB cJ x2 0 4 v2 hq) [] rfl (va_cwS 3 hts gX5_field_X5_in rfl rfl rfl hd_X5_in ⟨Nat.le_of_ble_eq_true rfl, Nat.le_of_ble_eq_true rfl⟩) rfl hl.1 rfl (Nat.le_of_ble_eq_true rfl) dX5_field_15 ⟨Nat.zero_le _, Nat.zero_le _⟩ (fun hz_v2 => ?_)
    refine lv_if_ne (tgt := 25) hx hb dX5_field_18 (by decide) (fun hc => ?_) (fun hc => ?_)
    · replace hg := if_no hg hc
      refine lv_iconst (v := 0) hx hb dX5_field_25 (by decide) ?_
      exact hJ1 _ _ _ hP hD hS _ (lv_sub hl [0, 1, 2] rfl) hg
    · replace hg := if_yes hg hc
      refine lv_iconst (v := 2) hx hb dX5_field_21 (by decide) ?_
      refine lv_goto (tgt := 26) hx hb dX5_field_22 (by decide) ?_
      exact hJ1 _ _ _ hP hD hS _ (lv_sub hl [0, 1, 2] rfl) hg
  · replace hg := if_yes hg hc
    refine lv_iconst (v := 1) hx hb dX5_field_8 (by decide) ?_
    refine lv_goto (tgt := 26) hx hb dX5_field_9 (by decide) ?_
    exact hJ1 _ _ _ hP hD hS _ (lv_sub hl [0, 1, 2] rfl) hg
theorem hd_X5_lowestFieldOf : yX5_lowestFieldOf.cls = RX5 ∧ yX5_lowestFieldOf.cls ≠ "java/lang/invoke/MethodHandle" ∧ yX5_lowestFieldOf.cls ≠ "java/lang/invoke/VarHandle" ∧ (parseMethodDescriptor yX5_lowestFieldOf.desc).map (fun d => d.parameters.length) = some 1 := by decide +kernel
theorem in_X5_lowestFieldOf_X5 : ∀ w ∈ u_ws RX5 TX5 20, w ∈ wsX5_lowestFieldOf := fun _ h => List.mem_cons_of_mem _ (List.mem_append_right _ h)
theorem wd_X5_lowestFieldOf_1 : Cond.fieldLink RX5 7 "FogOrdersModel" "s" "[I" ∈ wsX5_lowestFieldOf := List.mem_of_getElem? (i := 1) rfl
abbrev rX5_lowestFieldOf : Room := { frames := 2, cells := 0, slots := 0, locals := 43 }
set_option maxHeartbeats 4000000 in
set_option maxRecDepth 100000 in
theorem c_X5_lowestFieldOf (l : Launch) (D : va_G) (cI cZ cB cJ : ClassId) (A_t : Nat) (A_t_s : Nat) (A_t_aside : Nat) (A_t_snapshot : Nat) (A_t_saved : Nat) (A_t_text : Nat) (A_t_counts : Nat) (A_t_isCut : Nat) (A_t_strength : Nat) (A_t_fails : Nat) (A_t_why : Nat) (A_t_driver : Nat) (A_t_place : Nat) (A_t_isDone : Nat) (V_t_thrown : Int32) (V_t_isKept : Int32) (V_t_savedMany : Int32) (V_t_length : Int32) (V_t_position : Int32) (V_t_isWrong : Int32) (V_t_digested : Int64) (V_t_s : Nat → Int32) (x1 : Int32) (r0 : Int32) (hg : g_X5_lowestFieldOf V_t_s x1 = some r0) : Met l yX5_lowestFieldOf wsX5_lowestFieldOf rX5_lowestFieldOf (PcR D cI cZ cB cJ [(A_t, .inr (5, [.int V_t_thrown, .ref A_t_s, .ref A_t_aside, .ref A_t_snapshot, .int V_t_isKept, .ref A_t_saved, .int V_t_savedMany, .ref A_t_text, .int V_t_length, .ref A_t_counts, .ref A_t_isCut, .ref A_t_strength, .ref A_t_fails, .ref A_t_why, .ref A_t_driver, .ref A_t_place, .ref A_t_isDone, .int V_t_position, .int V_t_isWrong, .long V_t_digested])), (A_t_s, .inl (cI, 77, .inl V_t_s))] [.ref A_t, .int x1]) (vp_Si (fun r' => r' = r0 ∧ True)) 0 0 (fun _ => False) := by
  refine bodyRi (cc := cX5_lowestFieldOf) (maxL := 4) (lv := [(0, .ref A_t), (1, .int x1)]) (by decide) rfl (Nat.le_of_ble_eq_true rfl) rfl ?_
  intro p e s m args below meth c Q hx hb hml hown hts hP hK fin ls hl
  replace hown : s.vm.findClass RX5 = some m.cls := hown
  have S : CallFix p m c cX5_lowestFieldOf 4 s args wsX5_lowestFieldOf RX5 := ⟨hx, hb, hml, hown, hts⟩
  unfold g_X5_lowestFieldOf at hg
  refine lv_iconst (v := (-1)) hx hb dX5_lowestFieldOf_0 (by decide) ?_
  refine lv_istore_n (lv' := [(2, .int (-1)), (0, .ref A_t), (1, .int x1)]) hx hb dX5_lowestFieldOf_1 rfl hl (by decide) rfl (fun ls hl => ?_)
  refine lv_iconst (v := 0) hx hb dX5_lowestFieldOf_2 (by decide) ?_
  refine lv_istore_n (lv' := [(3, .int 0), (2, .int (-1)), (0, .ref A_t), (1, .int x1)]) hx hb dX5_lowestFieldOf_3 rfl hl (by decide) rfl (fun ls hl => ?_)
  obtain ⟨v7, hL, hg⟩ := bind_ex hg
  have kx : ∀ ls : Array Slot, lv_has ls 4 [(2, .int v7)] → W p l e rX5_lowestFieldOf s m args below meth c s.heap [] 0 0 Q (F0 m 57 ls []) := by
    intro ls hl
    refine lv_iload_n hx hb dX5_lowestFieldOf_57 rfl (lv_at hl 0 rfl) ?_
    cases hg
    exact fin _ _ dX5_lowestFieldOf_58
  have L : ∀ (nf : Nat) (v1 : Int32) (v2 : Int32), ∀ ls : Array Slot, lv_has ls 4 [(3, .int v2), (2, .int v1), (0, .ref A_t), (1, .int x1)] → g_X5_lowestFieldOf_L1 V_t_s x1 nf v1 v2 = some v7 → W p l e rX5_lowestFieldOf s m args below meth c s.heap [] 0 0 Q (F0 m 4 ls []) := by
    intro nf
    induction nf with
    | zero =>
      intro v1 v2 ls hl hg
      exact no_some hg
    | succ nf ih =>
      intro v1 v2 ls hl hg
      rw [g_X5_lowestFieldOf_L1] at hg
      refine lv_iload_n hx hb dX5_lowestFieldOf_4 rfl (lv_at hl 0 rfl) ?_
      refine lv_aload_n hx hb dX5_lowestFieldOf_5 rfl (lv_at hl 2 rfl) ?_
      refine xget (ci := 5) (C := RX5) (T := TX5) (N := 20) (v := .ref A_t_s) hx hb hts in_X5_lowestFieldOf_X5 hown hK hP 0 rfl rfl 1 (by decide) wd_X5_lowestFieldOf_1 rfl dX5_lowestFieldOf_6 ?_
      refine lv_bipush (v := 9) hx hb dX5_lowestFieldOf_9 (by decide) ?_
      obtain ⟨v3, hin, hv, hg⟩ := rdA_ex hg
      refine xiald hx hb hK hP 1 rfl hin hv dX5_lowestFieldOf_11 ?_
      refine lv_icmp_ge (tgt := 57) hx hb dX5_lowestFieldOf_12 (by decide) (fun hc => ?_) (fun hc => ?_)
      · replace hg := if_yes hg hc
        cases hg
        exact kx _ (lv_sub hl [1] rfl)
      · replace hg := if_no hg hc
        refine lv_aload_n hx hb dX5_lowestFieldOf_15 rfl (lv_at hl 2 rfl) ?_
        refine lv_iload_n hx hb dX5_lowestFieldOf_16 rfl (lv_at hl 0 rfl) ?_
        refine lv_iconst (v := 0) hx hb dX5_lowestFieldOf_17 (by decide) ?_
        obtain ⟨v4, hq, hg⟩ := bind_ex hg
        refine callRVi (As := [.int v2, .int 0]) (rest := []) S hK hP (c_X5_of l D cI cZ cB cJ A_t A_t_s A_t_aside A_t_snapshot A_t_saved A_t_text A_t_counts A_t_isCut A_t_strength A_t_fails A_t_why A_t_driver A_t_place A_t_isDone V_t_thrown V_t_isKept V_t_savedMany V_t_length V_t_position V_t_isWrong V_t_digested V_t_s v2 0 v4 hq) [0, 1] rfl (cwV 2 hts gX5_lowestFieldOf_X5_of rfl rfl rfl hd_X5_of ⟨Nat.le_of_ble_eq_true rfl, Nat.le_of_ble_eq_true rfl⟩) rfl rfl rfl hl.1 rfl (Nat.le_of_ble_eq_true rfl) dX5_lowestFieldOf_18 ⟨Nat.zero_le _, Nat.zero_le _⟩ ?_
        refine lv_iload_n hx hb dX5_lowestFieldOf_21 rfl (lv_at hl 3 rfl) ?_
        refine lv_icmp_ne (tgt := 49) hx hb dX5_lowestFieldOf_22 (by decide) (fun hc => ?_) (fun hc => ?_)
        · replace hg := if_no hg hc
          refine lv_iload_n hx hb dX5_lowestFieldOf_49 rfl (lv_at hl 1 rfl) ?_
          refine lv_istore_n (lv' := [(2, .int v1), (3, .int v2), (0, .ref A_t), (1, .int x1)]) hx hb dX5_lowestFieldOf_50 rfl hl (by decide) rfl (fun ls hl => ?_)
          refine lv_iinc (v := (v2 + 1)) (lv' := [(3, .int (v2 + 1)), (2, .int v1), (0, .ref A_t), (1, .int x1)]) hx hb dX5_lowestFieldOf_51 hl (k := 1) rfl rfl (by decide) rfl (fun ls hl => ?_)
          refine lv_goto (tgt := 4) hx hb dX5_lowestFieldOf_54 (by decide) ?_
          exact ih _ _ _ (lv_sub hl [0, 1, 2, 3] rfl) hg
        · replace hg := if_yes hg hc
          refine lv_iload_n hx hb dX5_lowestFieldOf_25 rfl (lv_at hl 1 rfl) ?_
          refine lv_iconst (v := (-1)) hx hb dX5_lowestFieldOf_26 (by decide) ?_
          have hJ1 : ∀ ls : Array Slot, lv_has ls 4 [(3, .int v2), (0, .ref A_t), (1, .int x1)] → g_X5_lowestFieldOf_J1 V_t_s v2 (g_X5_lowestFieldOf_L1 V_t_s x1 nf) = some v7 → W p l e rX5_lowestFieldOf s m args below meth c s.heap [] 0 0 Q (F0 m 40 ls []) := by
            intro ls hl hg
            unfold g_X5_lowestFieldOf_J1 at hg
            refine lv_aload_n hx hb dX5_lowestFieldOf_40 rfl (lv_at hl 1 rfl) ?_
            refine lv_iload_n hx hb dX5_lowestFieldOf_41 rfl (lv_at hl 0 rfl) ?_
            refine lv_iconst (v := 1) hx hb dX5_lowestFieldOf_42 (by decide) ?_
            obtain ⟨v6, hq, hg⟩ := bind_ex hg
            refine callRVi (As := [.int v2, .int 1]) (rest := []) S hK hP (c_X5_of l D cI cZ cB cJ A_t A_t_s A_t_aside A_t_snapshot A_t_saved A_t_text A_t_counts A_t_isCut A_t_strength A_t_fails A_t_why A_t_driver A_t_place A_t_isDone V_t_thrown V_t_isKept V_t_savedMany V_t_length V_t_position V_t_isWrong V_t_digested V_t_s v2 1 v6 hq) [0, 1] rfl (cwV 2 hts gX5_lowestFieldOf_X5_of rfl rfl rfl hd_X5_of ⟨Nat.le_of_ble_eq_true rfl, Nat.le_of_ble_eq_true rfl⟩) rfl rfl rfl hl.1 rfl (Nat.le_of_ble_eq_true rfl) dX5_lowestFieldOf_43 ⟨Nat.zero_le _, Nat.zero_le _⟩ ?_
            refine lv_goto (tgt := 50) hx hb dX5_lowestFieldOf_46 (by decide) ?_
            refine lv_istore_n (lv' := [(2, .int v6), (3, .int v2), (0, .ref A_t), (1, .int x1)]) hx hb dX5_lowestFieldOf_50 rfl hl (by decide) rfl (fun ls hl => ?_)
            refine lv_iinc (v := (v2 + 1)) (lv' := [(3, .int (v2 + 1)), (2, .int v6), (0, .ref A_t), (1, .int x1)]) hx hb dX5_lowestFieldOf_51 hl (k := 1) rfl rfl (by decide) rfl (fun ls hl => ?_)
            refine lv_goto (tgt := 4) hx hb dX5_lowestFieldOf_54 (by decide) ?_
            exact ih _ _ _ (lv_sub hl [0, 1, 2, 3] rfl) hg
          refine lv_icmp_eq (tgt := 40) hx hb dX5_lowestFieldOf_27 (by decide) (fun hc => ?_) (fun hc => ?_)
          · replace hg := if_yes hg hc
            exact hJ1 _ (lv_sub hl [0, 2, 3] rfl) hg
          · replace hg := if_no hg hc
            refine lv_aload_n hx hb dX5_lowestFieldOf_30 rfl (lv_at hl 2 rfl) ?_
            refine lv_iload_n hx hb dX5_lowestFieldOf_31 rfl (lv_at hl 0 rfl) ?_
            refine lv_iconst (v := 1) hx hb dX5_lowestFieldOf_32 (by decide) ?_
            obtain ⟨v5, hq, hg⟩ := bind_ex hg
            refine callRVi (As := [.int v2, .int 1]) (rest := []) S hK hP (c_X5_of l D cI cZ cB cJ A_t A_t_s A_t_aside A_t_snapshot A_t_saved A_t_text A_t_counts A_t_isCut A_t_strength A_t_fails A_t_why A_t_driver A_t_place A_t_isDone V_t_thrown V_t_isKept V_t_savedMany V_t_length V_t_position V_t_isWrong V_t_digested V_t_s v2 1 v5 hq) [0, 1] rfl (cwV 2 hts gX5_lowestFieldOf_X5_of rfl rfl rfl hd_X5_of ⟨Nat.le_of_ble_eq_true rfl, Nat.le_of_ble_eq_true rfl⟩) rfl rfl rfl hl.1 rfl (Nat.le_of_ble_eq_true rfl) dX5_lowestFieldOf_33 ⟨Nat.zero_le _, Nat.zero_le _⟩ ?_
            refine lv_iload_n hx hb dX5_lowestFieldOf_36 rfl (lv_at hl 1 rfl) ?_
            refine lv_icmp_ge (tgt := 49) hx hb dX5_lowestFieldOf_37 (by decide) (fun hc => ?_) (fun hc => ?_)
            · replace hg := if_yes hg hc
              refine lv_iload_n hx hb dX5_lowestFieldOf_49 rfl (lv_at hl 1 rfl) ?_
              refine lv_istore_n (lv' := [(2, .int v1), (3, .int v2), (0, .ref A_t), (1, .int x1)]) hx hb dX5_lowestFieldOf_50 rfl hl (by decide) rfl (fun ls hl => ?_)
              refine lv_iinc (v := (v2 + 1)) (lv' := [(3, .int (v2 + 1)), (2, .int v1), (0, .ref A_t), (1, .int x1)]) hx hb dX5_lowestFieldOf_51 hl (k := 1) rfl rfl (by decide) rfl (fun ls hl => ?_)
              refine lv_goto (tgt := 4) hx hb dX5_lowestFieldOf_54 (by decide) ?_
              exact ih _ _ _ (lv_sub hl [0, 1, 2, 3] rfl) hg
            · replace hg := if_no hg hc
              exact hJ1 _ (lv_sub hl [0, 2, 3] rfl) hg
  exact L FU _ _ _ (lv_sub hl [0, 1, 2, 3] rfl) hL
theorem hd_X5_othersSeen : yX5_othersSeen.cls = RX5 ∧ yX5_othersSeen.cls ≠ "java/lang/invoke/MethodHandle" ∧ yX5_othersSeen.cls ≠ "java/lang/invoke/VarHandle" ∧ (parseMethodDescriptor yX5_othersSeen.desc).map (fun d => d.parameters.length) = some 1 := by decide +kernel
theorem in_X5_othersSeen_X5 : ∀ w ∈ u_ws RX5 TX5 20, w ∈ wsX5_othersSeen := fun _ h => List.mem_cons_of_mem _ (List.mem_append_right _ h)
theorem wd_X5_othersSeen_1 : Cond.fieldLink RX5 7 "FogOrdersModel" "s" "[I" ∈ wsX5_othersSeen := List.mem_of_getElem? (i := 1) rfl
abbrev rX5_othersSeen : Room := { frames := 3, cells := 0, slots := 0, locals := 67 }
set_option maxHeartbeats 4000000 in
set_option maxRecDepth 100000 in
theorem c_X5_othersSeen (l : Launch) (D : va_G) (cI cZ cB cJ : ClassId) (A_t : Nat) (A_t_s : Nat) (A_t_aside : Nat) (A_t_snapshot : Nat) (A_t_saved : Nat) (A_t_text : Nat) (A_t_counts : Nat) (A_t_isCut : Nat) (A_t_strength : Nat) (A_t_fails : Nat) (A_t_why : Nat) (A_t_driver : Nat) (A_t_place : Nat) (A_t_isDone : Nat) (V_t_thrown : Int32) (V_t_isKept : Int32) (V_t_savedMany : Int32) (V_t_length : Int32) (V_t_position : Int32) (V_t_isWrong : Int32) (V_t_digested : Int64) (V_t_s : Nat → Int32) (x1 : Int32) (r0 : Int32) (hg : g_X5_othersSeen V_t_s x1 = some r0) : Met l yX5_othersSeen wsX5_othersSeen rX5_othersSeen (PcR D cI cZ cB cJ [(A_t, .inr (5, [.int V_t_thrown, .ref A_t_s, .ref A_t_aside, .ref A_t_snapshot, .int V_t_isKept, .ref A_t_saved, .int V_t_savedMany, .ref A_t_text, .int V_t_length, .ref A_t_counts, .ref A_t_isCut, .ref A_t_strength, .ref A_t_fails, .ref A_t_why, .ref A_t_driver, .ref A_t_place, .ref A_t_isDone, .int V_t_position, .int V_t_isWrong, .long V_t_digested])), (A_t_s, .inl (cI, 77, .inl V_t_s))] [.ref A_t, .int x1]) (vp_Si (fun r' => r' = r0 ∧ True)) 0 0 (fun _ => False) := by
  refine bodyRi (cc := cX5_othersSeen) (maxL := 4) (lv := [(0, .ref A_t), (1, .int x1)]) (by decide) rfl (Nat.le_of_ble_eq_true rfl) rfl ?_
  intro p e s m args below meth c Q hx hb hml hown hts hP hK fin ls hl
  replace hown : s.vm.findClass RX5 = some m.cls := hown
  have S : CallFix p m c cX5_othersSeen 4 s args wsX5_othersSeen RX5 := ⟨hx, hb, hml, hown, hts⟩
  unfold g_X5_othersSeen at hg
  refine lv_iconst (v := 0) hx hb dX5_othersSeen_0 (by decide) ?_
  refine lv_istore_n (lv' := [(2, .int 0), (0, .ref A_t), (1, .int x1)]) hx hb dX5_othersSeen_1 rfl hl (by decide) rfl (fun ls hl => ?_)
  refine lv_iconst (v := 0) hx hb dX5_othersSeen_2 (by decide) ?_
  refine lv_istore_n (lv' := [(3, .int 0), (2, .int 0), (0, .ref A_t), (1, .int x1)]) hx hb dX5_othersSeen_3 rfl hl (by decide) rfl (fun ls hl => ?_)
  obtain ⟨v7, hL, hg⟩ := bind_ex hg
  have kx : ∀ ls : Array Slot, lv_has ls 4 [(2, .int v7)] → W p l e rX5_othersSeen s m args below meth c s.heap [] 0 0 Q (F0 m 57 ls []) := by
    intro ls hl
    refine lv_iload_n hx hb dX5_othersSeen_57 rfl (lv_at hl 0 rfl) ?_
    cases hg
    exact fin _ _ dX5_othersSeen_58
  have L : ∀ (nf : Nat) (v1 : Int32) (v2 : Int32), ∀ ls : Array Slot, lv_has ls 4 [(3, .int v2), (2, .int v1), (0, .ref A_t), (1, .int x1)] → g_X5_othersSeen_L1 V_t_s x1 nf v1 v2 = some v7 → W p l e rX5_othersSeen s m args below meth c s.heap [] 0 0 Q (F0 m 4 ls []) := by
    intro nf
    induction nf with
    | zero =>
      intro v1 v2 ls hl hg
      exact no_some hg
    | succ nf ih =>
      intro v1 v2 ls hl hg
      rw [g_X5_othersSeen_L1] at hg
      refine lv_iload_n hx hb dX5_othersSeen_4 rfl (lv_at hl 0 rfl) ?_
      refine lv_aload_n hx hb dX5_othersSeen_5 rfl (lv_at hl 2 rfl) ?_
      refine xget (ci := 5) (C := RX5) (T := TX5) (N := 20) (v := .ref A_t_s) hx hb hts in_X5_othersSeen_X5 hown hK hP 0 rfl rfl 1 (by decide) wd_X5_othersSeen_1 rfl dX5_othersSeen_6 ?_
      refine lv_bipush (v := 9) hx hb dX5_othersSeen_9 (by decide) ?_
      obtain ⟨v3, hin, hv, hg⟩ := rdA_ex hg
      refine xiald hx hb hK hP 1 rfl hin hv dX5_othersSeen_11 ?_
      refine lv_icmp_ge (tgt := 57) hx hb dX5_othersSeen_12 (by decide) (fun hc => ?_) (fun hc => ?_)
      · replace hg := if_yes hg hc
        cases hg
        exact kx _ (lv_sub hl [1] rfl)
      · replace hg := if_no hg hc
        refine lv_iload_n hx hb dX5_othersSeen_15 rfl (lv_at hl 1 rfl) ?_
        refine lv_aload_n hx hb dX5_othersSeen_16 rfl (lv_at hl 2 rfl) ?_
        refine lv_iload_n hx hb dX5_othersSeen_17 rfl (lv_at hl 0 rfl) ?_
        refine lv_iconst (v := 0) hx hb dX5_othersSeen_18 (by decide) ?_
        obtain ⟨v4, hq, hg⟩ := bind_ex hg
        refine callRVi (As := [.int v2, .int 0]) (rest := [.int v1]) S hK hP (c_X5_of l D cI cZ cB cJ A_t A_t_s A_t_aside A_t_snapshot A_t_saved A_t_text A_t_counts A_t_isCut A_t_strength A_t_fails A_t_why A_t_driver A_t_place A_t_isDone V_t_thrown V_t_isKept V_t_savedMany V_t_length V_t_position V_t_isWrong V_t_digested V_t_s v2 0 v4 hq) [0, 1] rfl (cwV 2 hts gX5_othersSeen_X5_of rfl rfl rfl hd_X5_of ⟨Nat.le_of_ble_eq_true rfl, Nat.le_of_ble_eq_true rfl⟩) rfl rfl rfl hl.1 rfl (Nat.le_of_ble_eq_true rfl) dX5_othersSeen_19 ⟨Nat.zero_le _, Nat.zero_le _⟩ ?_
        refine lv_iload_n hx hb dX5_othersSeen_22 rfl (lv_at hl 3 rfl) ?_
        refine lv_icmp_eq (tgt := 48) hx hb dX5_othersSeen_23 (by decide) (fun hc => ?_) (fun hc => ?_)
        · replace hg := if_yes hg hc
          refine lv_iconst (v := 0) hx hb dX5_othersSeen_48 (by decide) ?_
          refine lv_iadd hx hb dX5_othersSeen_49 ?_
          refine lv_istore_n (lv' := [(2, .int (v1 + 0)), (3, .int v2), (0, .ref A_t), (1, .int x1)]) hx hb dX5_othersSeen_50 rfl hl (by decide) rfl (fun ls hl => ?_)
          refine lv_iinc (v := (v2 + 1)) (lv' := [(3, .int (v2 + 1)), (2, .int (v1 + 0)), (0, .ref A_t), (1, .int x1)]) hx hb dX5_othersSeen_51 hl (k := 1) rfl rfl (by decide) rfl (fun ls hl => ?_)
          refine lv_goto (tgt := 4) hx hb dX5_othersSeen_54 (by decide) ?_
          exact ih _ _ _ (lv_sub hl [0, 1, 2, 3] rfl) hg
        · replace hg := if_no hg hc
          refine lv_aload_n hx hb dX5_othersSeen_26 rfl (lv_at hl 2 rfl) ?_
          refine lv_iload_n hx hb dX5_othersSeen_27 rfl (lv_at hl 3 rfl) ?_
          obtain ⟨v5, hq, hg⟩ := bind_ex hg
          refine callRVi (As := [.int x1]) (rest := [.int v1]) S hK hP (c_X5_seenBy l D cI cZ cB cJ A_t A_t_s A_t_aside A_t_snapshot A_t_saved A_t_text A_t_counts A_t_isCut A_t_strength A_t_fails A_t_why A_t_driver A_t_place A_t_isDone V_t_thrown V_t_isKept V_t_savedMany V_t_length V_t_position V_t_isWrong V_t_digested V_t_s x1 v5 hq) [0, 1] rfl (cwV 1 hts gX5_othersSeen_X5_seenBy rfl rfl rfl hd_X5_seenBy ⟨Nat.le_of_ble_eq_true rfl, Nat.le_of_ble_eq_true rfl⟩) rfl rfl rfl hl.1 rfl (Nat.le_of_ble_eq_true rfl) dX5_othersSeen_28 ⟨Nat.zero_le _, Nat.zero_le _⟩ ?_
          refine lv_aload_n hx hb dX5_othersSeen_31 rfl (lv_at hl 2 rfl) ?_
          refine lv_iload_n hx hb dX5_othersSeen_32 rfl (lv_at hl 0 rfl) ?_
          refine lv_iconst (v := 1) hx hb dX5_othersSeen_33 (by decide) ?_
          obtain ⟨v6, hq, hg⟩ := bind_ex hg
          refine callRVi (As := [.int v2, .int 1]) (rest := [.int v5, .int v1]) S hK hP (c_X5_of l D cI cZ cB cJ A_t A_t_s A_t_aside A_t_snapshot A_t_saved A_t_text A_t_counts A_t_isCut A_t_strength A_t_fails A_t_why A_t_driver A_t_place A_t_isDone V_t_thrown V_t_isKept V_t_savedMany V_t_length V_t_position V_t_isWrong V_t_digested V_t_s v2 1 v6 hq) [0, 1] rfl (cwV 2 hts gX5_othersSeen_X5_of rfl rfl rfl hd_X5_of ⟨Nat.le_of_ble_eq_true rfl, Nat.le_of_ble_eq_true rfl⟩) rfl rfl rfl hl.1 rfl (Nat.le_of_ble_eq_true rfl) dX5_othersSeen_34 ⟨Nat.zero_le _, Nat.zero_le _⟩ ?_
          refine lv_ishr hx hb dX5_othersSeen_37 ?_
          refine lv_iconst (v := 1) hx hb dX5_othersSeen_38 (by decide) ?_
          refine lv_iand hx hb dX5_othersSeen_39 ?_
          refine lv_iconst (v := 1) hx hb dX5_othersSeen_40 (by decide) ?_
          refine lv_icmp_ne (tgt := 48) hx hb dX5_othersSeen_41 (by decide) (fun hc => ?_) (fun hc => ?_)
          · replace hg := if_no hg hc
            refine lv_iconst (v := 0) hx hb dX5_othersSeen_48 (by decide) ?_
            refine lv_iadd hx hb dX5_othersSeen_49 ?_
            refine lv_istore_n (lv' := [(2, .int (v1 + 0)), (3, .int v2), (0, .ref A_t), (1, .int x1)]) hx hb dX5_othersSeen_50 rfl hl (by decide) rfl (fun ls hl => ?_)
            refine lv_iinc (v := (v2 + 1)) (lv' := [(3, .int (v2 + 1)), (2, .int (v1 + 0)), (0, .ref A_t), (1, .int x1)]) hx hb dX5_othersSeen_51 hl (k := 1) rfl rfl (by decide) rfl (fun ls hl => ?_)
            refine lv_goto (tgt := 4) hx hb dX5_othersSeen_54 (by decide) ?_
            exact ih _ _ _ (lv_sub hl [0, 1, 2, 3] rfl) hg
          · replace hg := if_yes hg hc
            refine lv_iconst (v := 1) hx hb dX5_othersSeen_44 (by decide) ?_
            refine lv_goto (tgt := 49) hx hb dX5_othersSeen_45 (by decide) ?_
            refine lv_iadd hx hb dX5_othersSeen_49 ?_
            refine lv_istore_n (lv' := [(2, .int (v1 + 1)), (3, .int v2), (0, .ref A_t), (1, .int x1)]) hx hb dX5_othersSeen_50 rfl hl (by decide) rfl (fun ls hl => ?_)
            refine lv_iinc (v := (v2 + 1)) (lv' := [(3, .int (v2 + 1)), (2, .int (v1 + 1)), (0, .ref A_t), (1, .int x1)]) hx hb dX5_othersSeen_51 hl (k := 1) rfl rfl (by decide) rfl (fun ls hl => ?_)
            refine lv_goto (tgt := 4) hx hb dX5_othersSeen_54 (by decide) ?_
            exact ih _ _ _ (lv_sub hl [0, 1, 2, 3] rfl) hg
  exact L FU _ _ _ (lv_sub hl [0, 1, 2, 3] rfl) hL
theorem hd_X5_toldOfSeat : yX5_toldOfSeat.cls = RX5 ∧ yX5_toldOfSeat.cls ≠ "java/lang/invoke/MethodHandle" ∧ yX5_toldOfSeat.cls ≠ "java/lang/invoke/VarHandle" ∧ (parseMethodDescriptor yX5_toldOfSeat.desc).map (fun d => d.parameters.length) = some 2 := by decide +kernel
abbrev rX5_toldOfSeat : Room := { frames := 4, cells := 0, slots := 0, locals := 90 }
set_option maxHeartbeats 4000000 in
set_option maxRecDepth 100000 in
theorem c_X5_toldOfSeat (l : Launch) (D : va_G) (cI cZ cB cJ : ClassId) (A_t : Nat) (A_t_s : Nat) (A_t_aside : Nat) (A_t_snapshot : Nat) (A_t_saved : Nat) (A_t_text : Nat) (A_t_counts : Nat) (A_t_isCut : Nat) (A_t_strength : Nat) (A_t_fails : Nat) (A_t_why : Nat) (A_t_driver : Nat) (A_t_place : Nat) (A_t_isDone : Nat) (V_t_thrown : Int32) (V_t_isKept : Int32) (V_t_savedMany : Int32) (V_t_length : Int32) (V_t_position : Int32) (V_t_isWrong : Int32) (V_t_digested : Int64) (V_t_s : Nat → Int32) (x1 : Int32) (x2 : Int32) (r0 : Int32) (hg : g_X5_toldOfSeat V_t_s x1 x2 = some r0) : Met l yX5_toldOfSeat wsX5_toldOfSeat rX5_toldOfSeat (PcR D cI cZ cB cJ [(A_t, .inr (5, [.int V_t_thrown, .ref A_t_s, .ref A_t_aside, .ref A_t_snapshot, .int V_t_isKept, .ref A_t_saved, .int V_t_savedMany, .ref A_t_text, .int V_t_length, .ref A_t_counts, .ref A_t_isCut, .ref A_t_strength, .ref A_t_fails, .ref A_t_why, .ref A_t_driver, .ref A_t_place, .ref A_t_isDone, .int V_t_position, .int V_t_isWrong, .long V_t_digested])), (A_t_s, .inl (cI, 77, .inl V_t_s))] [.ref A_t, .int x1, .int x2]) (vp_Si (fun r' => r' = r0 ∧ True)) 0 0 (fun _ => False) := by
  refine bodyRi (cc := cX5_toldOfSeat) (maxL := 3) (lv := [(0, .ref A_t), (1, .int x1), (2, .int x2)]) (by decide) rfl (Nat.le_of_ble_eq_true rfl) rfl ?_
  intro p e s m args below meth c Q hx hb hml hown hts hP hK fin ls hl
  replace hown : s.vm.findClass RX5 = some m.cls := hown
  have S : CallFix p m c cX5_toldOfSeat 3 s args wsX5_toldOfSeat RX5 := ⟨hx, hb, hml, hown, hts⟩
  unfold g_X5_toldOfSeat at hg
  refine lv_iload_n hx hb dX5_toldOfSeat_0 rfl (lv_at hl 2 rfl) ?_
  by_cases hk0 : x2 = 0
  · replace hg := if_yes hg hk0
    refine lv_tableIn (off := 31) (tgt := 32) hx hb dX5_toldOfSeat_1 (by rw [hk0]; decide) (by rw [hk0]; decide) (by rw [hk0]; decide) (by decide) ?_
    refine lv_aload_n hx hb dX5_toldOfSeat_32 rfl (lv_at hl 0 rfl) ?_
    refine lv_iload_n hx hb dX5_toldOfSeat_33 rfl (lv_at hl 1 rfl) ?_
    obtain ⟨v1, hq, hg⟩ := bind_ex hg
    refine callRVi (As := [.int x1]) (rest := []) S hK hP (c_X5_armiesOf l D cI cZ cB cJ A_t A_t_s A_t_aside A_t_snapshot A_t_saved A_t_text A_t_counts A_t_isCut A_t_strength A_t_fails A_t_why A_t_driver A_t_place A_t_isDone V_t_thrown V_t_isKept V_t_savedMany V_t_length V_t_position V_t_isWrong V_t_digested V_t_s x1 v1 hq) [0, 1] rfl (cwV 1 hts gX5_toldOfSeat_X5_armiesOf rfl rfl rfl hd_X5_armiesOf ⟨Nat.le_of_ble_eq_true rfl, Nat.le_of_ble_eq_true rfl⟩) rfl rfl rfl hl.1 rfl (Nat.le_of_ble_eq_true rfl) dX5_toldOfSeat_34 ⟨Nat.zero_le _, Nat.zero_le _⟩ ?_
    cases hg
    exact fin _ _ dX5_toldOfSeat_37
  · replace hg := if_no hg hk0
    by_cases hk1 : x2 = 1
    · replace hg := if_yes hg hk1
      refine lv_tableIn (off := 37) (tgt := 38) hx hb dX5_toldOfSeat_1 (by rw [hk1]; decide) (by rw [hk1]; decide) (by rw [hk1]; decide) (by decide) ?_
      refine lv_aload_n hx hb dX5_toldOfSeat_38 rfl (lv_at hl 0 rfl) ?_
      refine lv_iload_n hx hb dX5_toldOfSeat_39 rfl (lv_at hl 1 rfl) ?_
      obtain ⟨v2, hq, hg⟩ := bind_ex hg
      refine callRVi (As := [.int x1]) (rest := []) S hK hP (c_X5_centresOf l D cI cZ cB cJ A_t A_t_s A_t_aside A_t_snapshot A_t_saved A_t_text A_t_counts A_t_isCut A_t_strength A_t_fails A_t_why A_t_driver A_t_place A_t_isDone V_t_thrown V_t_isKept V_t_savedMany V_t_length V_t_position V_t_isWrong V_t_digested V_t_s x1 v2 hq) [0, 1] rfl (cwV 1 hts gX5_toldOfSeat_X5_centresOf rfl rfl rfl hd_X5_centresOf ⟨Nat.le_of_ble_eq_true rfl, Nat.le_of_ble_eq_true rfl⟩) rfl rfl rfl hl.1 rfl (Nat.le_of_ble_eq_true rfl) dX5_toldOfSeat_40 ⟨Nat.zero_le _, Nat.zero_le _⟩ ?_
      cases hg
      exact fin _ _ dX5_toldOfSeat_43
    · replace hg := if_no hg hk1
      by_cases hk2 : x2 = 2
      · replace hg := if_yes hg hk2
        refine lv_tableIn (off := 43) (tgt := 44) hx hb dX5_toldOfSeat_1 (by rw [hk2]; decide) (by rw [hk2]; decide) (by rw [hk2]; decide) (by decide) ?_
        refine lv_aload_n hx hb dX5_toldOfSeat_44 rfl (lv_at hl 0 rfl) ?_
        refine lv_iload_n hx hb dX5_toldOfSeat_45 rfl (lv_at hl 1 rfl) ?_
        obtain ⟨v3, hq, hg⟩ := bind_ex hg
        refine callRVi (As := [.int x1]) (rest := []) S hK hP (c_X5_seenBy l D cI cZ cB cJ A_t A_t_s A_t_aside A_t_snapshot A_t_saved A_t_text A_t_counts A_t_isCut A_t_strength A_t_fails A_t_why A_t_driver A_t_place A_t_isDone V_t_thrown V_t_isKept V_t_savedMany V_t_length V_t_position V_t_isWrong V_t_digested V_t_s x1 v3 hq) [0, 1] rfl (cwV 1 hts gX5_toldOfSeat_X5_seenBy rfl rfl rfl hd_X5_seenBy ⟨Nat.le_of_ble_eq_true rfl, Nat.le_of_ble_eq_true rfl⟩) rfl rfl rfl hl.1 rfl (Nat.le_of_ble_eq_true rfl) dX5_toldOfSeat_46 ⟨Nat.zero_le _, Nat.zero_le _⟩ ?_
        cases hg
        exact fin _ _ dX5_toldOfSeat_49
      · replace hg := if_no hg hk2
        by_cases hk3 : x2 = 3
        · replace hg := if_yes hg hk3
          refine lv_tableIn (off := 49) (tgt := 50) hx hb dX5_toldOfSeat_1 (by rw [hk3]; decide) (by rw [hk3]; decide) (by rw [hk3]; decide) (by decide) ?_
          refine lv_aload_n hx hb dX5_toldOfSeat_50 rfl (lv_at hl 0 rfl) ?_
          refine lv_iload_n hx hb dX5_toldOfSeat_51 rfl (lv_at hl 1 rfl) ?_
          obtain ⟨v4, hq, hg⟩ := bind_ex hg
          refine callRVi (As := [.int x1]) (rest := []) S hK hP (c_X5_lowestFieldOf l D cI cZ cB cJ A_t A_t_s A_t_aside A_t_snapshot A_t_saved A_t_text A_t_counts A_t_isCut A_t_strength A_t_fails A_t_why A_t_driver A_t_place A_t_isDone V_t_thrown V_t_isKept V_t_savedMany V_t_length V_t_position V_t_isWrong V_t_digested V_t_s x1 v4 hq) [0, 1] rfl (cwV 1 hts gX5_toldOfSeat_X5_lowestFieldOf rfl rfl rfl hd_X5_lowestFieldOf ⟨Nat.le_of_ble_eq_true rfl, Nat.le_of_ble_eq_true rfl⟩) rfl rfl rfl hl.1 rfl (Nat.le_of_ble_eq_true rfl) dX5_toldOfSeat_52 ⟨Nat.zero_le _, Nat.zero_le _⟩ ?_
          cases hg
          exact fin _ _ dX5_toldOfSeat_55
        · replace hg := if_no hg hk3
          refine lv_tableOut (tgt := 56) hx hb dX5_toldOfSeat_1 (sw_out (fun k h1 h2 => by rcases (show k = 0 ∨ k = 1 ∨ k = 2 ∨ k = 3 by omega) with rfl | rfl | rfl | rfl <;> first | exact hk0 | exact hk1 | exact hk2 | exact hk3)) (by decide) ?_
          refine lv_aload_n hx hb dX5_toldOfSeat_56 rfl (lv_at hl 0 rfl) ?_
          refine lv_iload_n hx hb dX5_toldOfSeat_57 rfl (lv_at hl 1 rfl) ?_
          obtain ⟨v5, hq, hg⟩ := bind_ex hg
          refine callRVi (As := [.int x1]) (rest := []) S hK hP (c_X5_othersSeen l D cI cZ cB cJ A_t A_t_s A_t_aside A_t_snapshot A_t_saved A_t_text A_t_counts A_t_isCut A_t_strength A_t_fails A_t_why A_t_driver A_t_place A_t_isDone V_t_thrown V_t_isKept V_t_savedMany V_t_length V_t_position V_t_isWrong V_t_digested V_t_s x1 v5 hq) [0, 1] rfl (cwV 1 hts gX5_toldOfSeat_X5_othersSeen rfl rfl rfl hd_X5_othersSeen ⟨Nat.le_of_ble_eq_true rfl, Nat.le_of_ble_eq_true rfl⟩) rfl rfl rfl hl.1 rfl (Nat.le_of_ble_eq_true rfl) dX5_toldOfSeat_58 ⟨Nat.zero_le _, Nat.zero_le _⟩ ?_
          cases hg
          exact fin _ _ dX5_toldOfSeat_61
theorem hd_X5_seat : yX5_seat.cls = RX5 ∧ yX5_seat.cls ≠ "java/lang/invoke/MethodHandle" ∧ yX5_seat.cls ≠ "java/lang/invoke/VarHandle" ∧ (parseMethodDescriptor yX5_seat.desc).map (fun d => d.parameters.length) = some 2 := by decide +kernel
abbrev rX5_seat : Room := { frames := 5, cells := 0, slots := 0, locals := 112 }
set_option maxHeartbeats 4000000 in
set_option maxRecDepth 100000 in
theorem c_X5_seat (l : Launch) (D : va_G) (cI cZ cB cJ : ClassId) (A_t : Nat) (A_t_s : Nat) (A_t_aside : Nat) (A_t_snapshot : Nat) (A_t_saved : Nat) (A_t_text : Nat) (A_t_counts : Nat) (A_t_isCut : Nat) (A_t_strength : Nat) (A_t_fails : Nat) (A_t_why : Nat) (A_t_driver : Nat) (A_t_place : Nat) (A_t_isDone : Nat) (sz : Nat) (V_t_thrown : Int32) (V_t_isKept : Int32) (V_t_savedMany : Int32) (V_t_length : Int32) (V_t_position : Int32) (V_t_isWrong : Int32) (V_t_digested : Int64) (V_t_s : Nat → Int32) (x1 : Int32) (x2 : Int32) (r0 : Int32) (w1 : Int32) (hg : g_X5_seat V_t_thrown V_t_s x1 x2 = some (r0, w1)) : Met l yX5_seat wsX5_seat rX5_seat (PcW D cI cZ cB cJ sz [(A_t, .inr (5, [.int V_t_thrown, .ref A_t_s, .ref A_t_aside, .ref A_t_snapshot, .int V_t_isKept, .ref A_t_saved, .int V_t_savedMany, .ref A_t_text, .int V_t_length, .ref A_t_counts, .ref A_t_isCut, .ref A_t_strength, .ref A_t_fails, .ref A_t_why, .ref A_t_driver, .ref A_t_place, .ref A_t_isDone, .int V_t_position, .int V_t_isWrong, .long V_t_digested])), (A_t_s, .inl (cI, 77, .inl V_t_s))] [.ref A_t, .int x1, .int x2]) (QWi D cI cZ cB cJ sz [(A_t, .inr (5, [.int V_t_thrown, .ref A_t_s, .ref A_t_aside, .ref A_t_snapshot, .int V_t_isKept, .ref A_t_saved, .int V_t_savedMany, .ref A_t_text, .int V_t_length, .ref A_t_counts, .ref A_t_isCut, .ref A_t_strength, .ref A_t_fails, .ref A_t_why, .ref A_t_driver, .ref A_t_place, .ref A_t_isDone, .int V_t_position, .int V_t_isWrong, .long V_t_digested])), (A_t_s, .inl (cI, 77, .inl V_t_s))] [(A_t, .inr (5, [.int w1, .ref A_t_s, .ref A_t_aside, .ref A_t_snapshot, .int V_t_isKept, .ref A_t_saved, .int V_t_savedMany, .ref A_t_text, .int V_t_length, .ref A_t_counts, .ref A_t_isCut, .ref A_t_strength, .ref A_t_fails, .ref A_t_why, .ref A_t_driver, .ref A_t_place, .ref A_t_isDone, .int V_t_position, .int V_t_isWrong, .long V_t_digested])), (A_t_s, .inl (cI, 77, .inl V_t_s))] r0) 0 0 (va_A [(A_t, .inr (5, [.int V_t_thrown, .ref A_t_s, .ref A_t_aside, .ref A_t_snapshot, .int V_t_isKept, .ref A_t_saved, .int V_t_savedMany, .ref A_t_text, .int V_t_length, .ref A_t_counts, .ref A_t_isCut, .ref A_t_strength, .ref A_t_fails, .ref A_t_why, .ref A_t_driver, .ref A_t_place, .ref A_t_isDone, .int V_t_position, .int V_t_isWrong, .long V_t_digested])), (A_t_s, .inl (cI, 77, .inl V_t_s))] sz) := by
  refine bodyWi (cc := cX5_seat) (maxL := 3) (lv := [(0, .ref A_t), (1, .int x1), (2, .int x2)]) (by decide) rfl (Nat.le_of_ble_eq_true rfl) rfl ?_
  intro p e s m args below meth c Q hx hb hml hown hts A hP hK hD hA hS fin ls hl
  replace hown : s.vm.findClass RX5 = some m.cls := hown
  have S : CallFix p m c cX5_seat 3 s args wsX5_seat RX5 := ⟨hx, hb, hml, hown, hts⟩
  unfold g_X5_seat at hg
  refine lv_aload_n hx hb dX5_seat_0 rfl (lv_at hl 0 rfl) ?_
  refine lv_iload_n hx hb dX5_seat_1 rfl (lv_at hl 1 rfl) ?_
  obtain ⟨v1, hq, hg⟩ := bind_ex hg
  refine callRSz (As := [.int x1]) (rest := [.ref A_t]) S hK hP (c_X5_isSeat l D cI cZ cB cJ x1 v1 hq) [] rfl (va_cwS 1 hts gX5_seat_X5_isSeat rfl rfl rfl hd_X5_isSeat ⟨Nat.le_of_ble_eq_true rfl, Nat.le_of_ble_eq_true rfl⟩) rfl hl.1 rfl (Nat.le_of_ble_eq_true rfl) dX5_seat_2 ⟨Nat.zero_le _, Nat.zero_le _⟩ (fun hz_v1 => ?_)
  have hJ1 : ∀ (v3 : Int32), ∀ (H : Heap) (locs : List Loc), va_P D vwCl [(A_t, .inr (5, [.int V_t_thrown, .ref A_t_s, .ref A_t_aside, .ref A_t_snapshot, .int V_t_isKept, .ref A_t_saved, .int V_t_savedMany, .ref A_t_text, .int V_t_length, .ref A_t_counts, .ref A_t_isCut, .ref A_t_strength, .ref A_t_fails, .ref A_t_why, .ref A_t_driver, .ref A_t_place, .ref A_t_isDone, .int V_t_position, .int V_t_isWrong, .long V_t_digested])), (A_t_s, .inl (cI, 77, .inl V_t_s))] H → va_D A [(A_t, .inr (5, [.int V_t_thrown, .ref A_t_s, .ref A_t_aside, .ref A_t_snapshot, .int V_t_isKept, .ref A_t_saved, .int V_t_savedMany, .ref A_t_text, .int V_t_length, .ref A_t_counts, .ref A_t_isCut, .ref A_t_strength, .ref A_t_fails, .ref A_t_why, .ref A_t_driver, .ref A_t_place, .ref A_t_isDone, .int V_t_position, .int V_t_isWrong, .long V_t_digested])), (A_t_s, .inl (cI, 77, .inl V_t_s))] → va_S A s.heap H locs → ∀ ls : Array Slot, lv_has ls 3 [(0, .ref A_t), (1, .int x1), (2, .int x2)] → g_X5_seat_J1 V_t_thrown V_t_s x1 x2 v3 = some (r0, w1) → W p l e rX5_seat s m args below meth c H locs 0 0 Q (F0 m 26 ls [.int v3, .ref A_t]) := by
    intro v3 H locs hP hD hS ls hl hg
    unfold g_X5_seat_J1 at hg
    obtain ⟨v5, v4, hq, hg⟩ := b2_ex hg
    refine callWVz (As := [.int v3]) (rest := []) (wr := [(A_t_s, .inl (cI, 77, .inl V_t_s))]) S hK hP hD hS hA (c_X5_holds l D cI cZ cB cJ A_t A_t_s A_t_aside A_t_snapshot A_t_saved A_t_text A_t_counts A_t_isCut A_t_strength A_t_fails A_t_why A_t_driver A_t_place A_t_isDone _ V_t_thrown V_t_isKept V_t_savedMany V_t_length V_t_position V_t_isWrong V_t_digested v3 v5 v4 hq) [0] [1] rfl rfl (by decide +kernel) (by decide +kernel) (by decide +kernel) (cwV 1 hts gX5_seat_X5_holds rfl rfl rfl hd_X5_holds ⟨Nat.le_of_ble_eq_true rfl, Nat.le_of_ble_eq_true rfl⟩) rfl rfl rfl hl.1 rfl (Nat.le_of_ble_eq_true rfl) dX5_seat_26 ⟨Nat.zero_le _, Nat.zero_le _⟩ (fun hz_v5 H locs hP hD hS => ?_)
    replace hP : va_P D vwCl [(A_t_s, .inl (cI, 77, .inl V_t_s)), (A_t, .inr (5, [.int v4, .ref A_t_s, .ref A_t_aside, .ref A_t_snapshot, .int V_t_isKept, .ref A_t_saved, .int V_t_savedMany, .ref A_t_text, .int V_t_length, .ref A_t_counts, .ref A_t_isCut, .ref A_t_strength, .ref A_t_fails, .ref A_t_why, .ref A_t_driver, .ref A_t_place, .ref A_t_isDone, .int V_t_position, .int V_t_isWrong, .long V_t_digested]))] H := hP
    replace hD : va_D A [(A_t_s, .inl (cI, 77, .inl V_t_s)), (A_t, .inr (5, [.int v4, .ref A_t_s, .ref A_t_aside, .ref A_t_snapshot, .int V_t_isKept, .ref A_t_saved, .int V_t_savedMany, .ref A_t_text, .int V_t_length, .ref A_t_counts, .ref A_t_isCut, .ref A_t_strength, .ref A_t_fails, .ref A_t_why, .ref A_t_driver, .ref A_t_place, .ref A_t_isDone, .int V_t_position, .int V_t_isWrong, .long V_t_digested]))] := hD
    refine lv_if_eq (tgt := 41) hx hb dX5_seat_29 (by decide) (fun hc => ?_) (fun hc => ?_)
    · replace hg := if_yes hg hc
      refine lv_iconst (v := 0) hx hb dX5_seat_41 (by decide) ?_
      cases hg
      exact fin _ _ _ _ dX5_seat_42 (hP.sub [1, 0] rfl) (hD.sub [1, 0] (by decide) rfl) hS
    · replace hg := if_no hg hc
      refine lv_aload_n hx hb dX5_seat_32 rfl (lv_at hl 0 rfl) ?_
      refine lv_iload_n hx hb dX5_seat_33 rfl (lv_at hl 1 rfl) ?_
      refine lv_iload_n hx hb dX5_seat_34 rfl (lv_at hl 2 rfl) ?_
      obtain ⟨v6, hq, hg⟩ := bind_ex hg
      refine callRVi (As := [.int x1, .int x2]) (rest := []) S hK hP (c_X5_toldOfSeat l D cI cZ cB cJ A_t A_t_s A_t_aside A_t_snapshot A_t_saved A_t_text A_t_counts A_t_isCut A_t_strength A_t_fails A_t_why A_t_driver A_t_place A_t_isDone v4 V_t_isKept V_t_savedMany V_t_length V_t_position V_t_isWrong V_t_digested V_t_s x1 x2 v6 hq) [1, 0] rfl (cwV 2 hts gX5_seat_X5_toldOfSeat rfl rfl rfl hd_X5_toldOfSeat ⟨Nat.le_of_ble_eq_true rfl, Nat.le_of_ble_eq_true rfl⟩) rfl rfl rfl hl.1 rfl (Nat.le_of_ble_eq_true rfl) dX5_seat_35 ⟨Nat.zero_le _, Nat.zero_le _⟩ ?_
      refine lv_goto (tgt := 42) hx hb dX5_seat_38 (by decide) ?_
      cases hg
      exact fin _ _ _ _ dX5_seat_42 (hP.sub [1, 0] rfl) (hD.sub [1, 0] (by decide) rfl) hS
  refine lv_if_ne (tgt := 12) hx hb dX5_seat_5 (by decide) (fun hc => ?_) (fun hc => ?_)
  · replace hg := if_no hg hc
    refine lv_iload_n hx hb dX5_seat_12 rfl (lv_at hl 2 rfl) ?_
    refine lv_iconst (v := 0) hx hb dX5_seat_13 (by decide) ?_
    refine lv_iconst (v := 4) hx hb dX5_seat_14 (by decide) ?_
    obtain ⟨v2, hq, hg⟩ := bind_ex hg
    refine callRSz (As := [.int x2, .int 0, .int 4]) (rest := [.ref A_t]) S hK hP (c_X5_in l D cI cZ cB cJ x2 0 4 v2 hq) [] rfl (va_cwS 3 hts gX5_seat_X5_in rfl rfl rfl hd_X5_in ⟨Nat.le_of_ble_eq_true rfl, Nat.le_of_ble_eq_true rfl⟩) rfl hl.1 rfl (Nat.le_of_ble_eq_true rfl) dX5_seat_15 ⟨Nat.zero_le _, Nat.zero_le _⟩ (fun hz_v2 => ?_)
    refine lv_if_ne (tgt := 25) hx hb dX5_seat_18 (by decide) (fun hc => ?_) (fun hc => ?_)
    · replace hg := if_no hg hc
      refine lv_iconst (v := 0) hx hb dX5_seat_25 (by decide) ?_
      exact hJ1 _ _ _ hP hD hS _ (lv_sub hl [0, 1, 2] rfl) hg
    · replace hg := if_yes hg hc
      refine lv_iconst (v := 2) hx hb dX5_seat_21 (by decide) ?_
      refine lv_goto (tgt := 26) hx hb dX5_seat_22 (by decide) ?_
      exact hJ1 _ _ _ hP hD hS _ (lv_sub hl [0, 1, 2] rfl) hg
  · replace hg := if_yes hg hc
    refine lv_iconst (v := 1) hx hb dX5_seat_8 (by decide) ?_
    refine lv_goto (tgt := 26) hx hb dX5_seat_9 (by decide) ?_
    exact hJ1 _ _ _ hP hD hS _ (lv_sub hl [0, 1, 2] rfl) hg
theorem hd_X5_ordersOf : yX5_ordersOf.cls = RX5 ∧ yX5_ordersOf.cls ≠ "java/lang/invoke/MethodHandle" ∧ yX5_ordersOf.cls ≠ "java/lang/invoke/VarHandle" ∧ (parseMethodDescriptor yX5_ordersOf.desc).map (fun d => d.parameters.length) = some 1 := by decide +kernel
theorem in_X5_ordersOf_X5 : ∀ w ∈ u_ws RX5 TX5 20, w ∈ wsX5_ordersOf := fun _ h => List.mem_cons_of_mem _ (List.mem_append_right _ h)
theorem wd_X5_ordersOf_1 : Cond.fieldLink RX5 7 "FogOrdersModel" "s" "[I" ∈ wsX5_ordersOf := List.mem_of_getElem? (i := 1) rfl
abbrev rX5_ordersOf : Room := { frames := 2, cells := 0, slots := 0, locals := 43 }
set_option maxHeartbeats 4000000 in
set_option maxRecDepth 100000 in
theorem c_X5_ordersOf (l : Launch) (D : va_G) (cI cZ cB cJ : ClassId) (A_t : Nat) (A_t_s : Nat) (A_t_aside : Nat) (A_t_snapshot : Nat) (A_t_saved : Nat) (A_t_text : Nat) (A_t_counts : Nat) (A_t_isCut : Nat) (A_t_strength : Nat) (A_t_fails : Nat) (A_t_why : Nat) (A_t_driver : Nat) (A_t_place : Nat) (A_t_isDone : Nat) (V_t_thrown : Int32) (V_t_isKept : Int32) (V_t_savedMany : Int32) (V_t_length : Int32) (V_t_position : Int32) (V_t_isWrong : Int32) (V_t_digested : Int64) (V_t_s : Nat → Int32) (x1 : Int32) (r0 : Int32) (hg : g_X5_ordersOf V_t_s x1 = some r0) : Met l yX5_ordersOf wsX5_ordersOf rX5_ordersOf (PcR D cI cZ cB cJ [(A_t, .inr (5, [.int V_t_thrown, .ref A_t_s, .ref A_t_aside, .ref A_t_snapshot, .int V_t_isKept, .ref A_t_saved, .int V_t_savedMany, .ref A_t_text, .int V_t_length, .ref A_t_counts, .ref A_t_isCut, .ref A_t_strength, .ref A_t_fails, .ref A_t_why, .ref A_t_driver, .ref A_t_place, .ref A_t_isDone, .int V_t_position, .int V_t_isWrong, .long V_t_digested])), (A_t_s, .inl (cI, 77, .inl V_t_s))] [.ref A_t, .int x1]) (vp_Si (fun r' => r' = r0 ∧ True)) 0 0 (fun _ => False) := by
  refine bodyRi (cc := cX5_ordersOf) (maxL := 4) (lv := [(0, .ref A_t), (1, .int x1)]) (by decide) rfl (Nat.le_of_ble_eq_true rfl) rfl ?_
  intro p e s m args below meth c Q hx hb hml hown hts hP hK fin ls hl
  replace hown : s.vm.findClass RX5 = some m.cls := hown
  have S : CallFix p m c cX5_ordersOf 4 s args wsX5_ordersOf RX5 := ⟨hx, hb, hml, hown, hts⟩
  unfold g_X5_ordersOf at hg
  refine lv_iconst (v := 0) hx hb dX5_ordersOf_0 (by decide) ?_
  refine lv_istore_n (lv' := [(2, .int 0), (0, .ref A_t), (1, .int x1)]) hx hb dX5_ordersOf_1 rfl hl (by decide) rfl (fun ls hl => ?_)
  refine lv_iconst (v := 0) hx hb dX5_ordersOf_2 (by decide) ?_
  refine lv_istore_n (lv' := [(3, .int 0), (2, .int 0), (0, .ref A_t), (1, .int x1)]) hx hb dX5_ordersOf_3 rfl hl (by decide) rfl (fun ls hl => ?_)
  obtain ⟨v5, hL, hg⟩ := bind_ex hg
  have kx : ∀ ls : Array Slot, lv_has ls 4 [(2, .int v5)] → W p l e rX5_ordersOf s m args below meth c s.heap [] 0 0 Q (F0 m 39 ls []) := by
    intro ls hl
    refine lv_iload_n hx hb dX5_ordersOf_39 rfl (lv_at hl 0 rfl) ?_
    cases hg
    exact fin _ _ dX5_ordersOf_40
  have L : ∀ (nf : Nat) (v1 : Int32) (v2 : Int32), ∀ ls : Array Slot, lv_has ls 4 [(3, .int v2), (2, .int v1), (0, .ref A_t), (1, .int x1)] → g_X5_ordersOf_L1 V_t_s x1 nf v1 v2 = some v5 → W p l e rX5_ordersOf s m args below meth c s.heap [] 0 0 Q (F0 m 4 ls []) := by
    intro nf
    induction nf with
    | zero =>
      intro v1 v2 ls hl hg
      exact no_some hg
    | succ nf ih =>
      intro v1 v2 ls hl hg
      rw [g_X5_ordersOf_L1] at hg
      refine lv_iload_n hx hb dX5_ordersOf_4 rfl (lv_at hl 0 rfl) ?_
      refine lv_aload_n hx hb dX5_ordersOf_5 rfl (lv_at hl 2 rfl) ?_
      refine xget (ci := 5) (C := RX5) (T := TX5) (N := 20) (v := .ref A_t_s) hx hb hts in_X5_ordersOf_X5 hown hK hP 0 rfl rfl 1 (by decide) wd_X5_ordersOf_1 rfl dX5_ordersOf_6 ?_
      refine lv_bipush (v := 9) hx hb dX5_ordersOf_9 (by decide) ?_
      obtain ⟨v3, hin, hv, hg⟩ := rdA_ex hg
      refine xiald hx hb hK hP 1 rfl hin hv dX5_ordersOf_11 ?_
      refine lv_icmp_ge (tgt := 39) hx hb dX5_ordersOf_12 (by decide) (fun hc => ?_) (fun hc => ?_)
      · replace hg := if_yes hg hc
        cases hg
        exact kx _ (lv_sub hl [1] rfl)
      · replace hg := if_no hg hc
        refine lv_iload_n hx hb dX5_ordersOf_15 rfl (lv_at hl 1 rfl) ?_
        refine lv_aload_n hx hb dX5_ordersOf_16 rfl (lv_at hl 2 rfl) ?_
        refine lv_iload_n hx hb dX5_ordersOf_17 rfl (lv_at hl 0 rfl) ?_
        refine lv_iconst (v := 2) hx hb dX5_ordersOf_18 (by decide) ?_
        obtain ⟨v4, hq, hg⟩ := bind_ex hg
        refine callRVi (As := [.int v2, .int 2]) (rest := [.int v1]) S hK hP (c_X5_of l D cI cZ cB cJ A_t A_t_s A_t_aside A_t_snapshot A_t_saved A_t_text A_t_counts A_t_isCut A_t_strength A_t_fails A_t_why A_t_driver A_t_place A_t_isDone V_t_thrown V_t_isKept V_t_savedMany V_t_length V_t_position V_t_isWrong V_t_digested V_t_s v2 2 v4 hq) [0, 1] rfl (cwV 2 hts gX5_ordersOf_X5_of rfl rfl rfl hd_X5_of ⟨Nat.le_of_ble_eq_true rfl, Nat.le_of_ble_eq_true rfl⟩) rfl rfl rfl hl.1 rfl (Nat.le_of_ble_eq_true rfl) dX5_ordersOf_19 ⟨Nat.zero_le _, Nat.zero_le _⟩ ?_
        refine lv_iload_n hx hb dX5_ordersOf_22 rfl (lv_at hl 3 rfl) ?_
        refine lv_icmp_ne (tgt := 30) hx hb dX5_ordersOf_23 (by decide) (fun hc => ?_) (fun hc => ?_)
        · replace hg := if_no hg hc
          refine lv_iconst (v := 0) hx hb dX5_ordersOf_30 (by decide) ?_
          refine lv_iadd hx hb dX5_ordersOf_31 ?_
          refine lv_istore_n (lv' := [(2, .int (v1 + 0)), (3, .int v2), (0, .ref A_t), (1, .int x1)]) hx hb dX5_ordersOf_32 rfl hl (by decide) rfl (fun ls hl => ?_)
          refine lv_iinc (v := (v2 + 1)) (lv' := [(3, .int (v2 + 1)), (2, .int (v1 + 0)), (0, .ref A_t), (1, .int x1)]) hx hb dX5_ordersOf_33 hl (k := 1) rfl rfl (by decide) rfl (fun ls hl => ?_)
          refine lv_goto (tgt := 4) hx hb dX5_ordersOf_36 (by decide) ?_
          exact ih _ _ _ (lv_sub hl [0, 1, 2, 3] rfl) hg
        · replace hg := if_yes hg hc
          refine lv_iconst (v := 1) hx hb dX5_ordersOf_26 (by decide) ?_
          refine lv_goto (tgt := 31) hx hb dX5_ordersOf_27 (by decide) ?_
          refine lv_iadd hx hb dX5_ordersOf_31 ?_
          refine lv_istore_n (lv' := [(2, .int (v1 + 1)), (3, .int v2), (0, .ref A_t), (1, .int x1)]) hx hb dX5_ordersOf_32 rfl hl (by decide) rfl (fun ls hl => ?_)
          refine lv_iinc (v := (v2 + 1)) (lv' := [(3, .int (v2 + 1)), (2, .int (v1 + 1)), (0, .ref A_t), (1, .int x1)]) hx hb dX5_ordersOf_33 hl (k := 1) rfl rfl (by decide) rfl (fun ls hl => ?_)
          refine lv_goto (tgt := 4) hx hb dX5_ordersOf_36 (by decide) ?_
          exact ih _ _ _ (lv_sub hl [0, 1, 2, 3] rfl) hg
  exact L FU _ _ _ (lv_sub hl [0, 1, 2, 3] rfl) hL
theorem hd_X5_counted : yX5_counted.cls = RX5 ∧ yX5_counted.cls ≠ "java/lang/invoke/MethodHandle" ∧ yX5_counted.cls ≠ "java/lang/invoke/VarHandle" ∧ (parseMethodDescriptor yX5_counted.desc).map (fun d => d.parameters.length) = some 1 := by decide +kernel
theorem in_X5_counted_X5 : ∀ w ∈ u_ws RX5 TX5 20, w ∈ wsX5_counted := fun _ h => List.mem_cons_of_mem _ (List.mem_append_right _ h)
theorem wd_X5_counted_1 : Cond.fieldLink RX5 7 "FogOrdersModel" "s" "[I" ∈ wsX5_counted := List.mem_of_getElem? (i := 1) rfl
theorem wd_X5_counted_2 : Cond.fieldLink RX5 62 "FogOrdersModel" "savedMany" "I" ∈ wsX5_counted := List.mem_of_getElem? (i := 2) rfl
abbrev rX5_counted : Room := { frames := 3, cells := 0, slots := 0, locals := 66 }
set_option maxHeartbeats 4000000 in
set_option maxRecDepth 100000 in
theorem c_X5_counted (l : Launch) (D : va_G) (cI cZ cB cJ : ClassId) (A_t : Nat) (A_t_s : Nat) (A_t_aside : Nat) (A_t_snapshot : Nat) (A_t_saved : Nat) (A_t_text : Nat) (A_t_counts : Nat) (A_t_isCut : Nat) (A_t_strength : Nat) (A_t_fails : Nat) (A_t_why : Nat) (A_t_driver : Nat) (A_t_place : Nat) (A_t_isDone : Nat) (V_t_thrown : Int32) (V_t_isKept : Int32) (V_t_savedMany : Int32) (V_t_length : Int32) (V_t_position : Int32) (V_t_isWrong : Int32) (V_t_digested : Int64) (V_t_s : Nat → Int32) (x1 : Int32) (r0 : Int32) (hg : g_X5_counted V_t_savedMany V_t_s x1 = some r0) : Met l yX5_counted wsX5_counted rX5_counted (PcR D cI cZ cB cJ [(A_t, .inr (5, [.int V_t_thrown, .ref A_t_s, .ref A_t_aside, .ref A_t_snapshot, .int V_t_isKept, .ref A_t_saved, .int V_t_savedMany, .ref A_t_text, .int V_t_length, .ref A_t_counts, .ref A_t_isCut, .ref A_t_strength, .ref A_t_fails, .ref A_t_why, .ref A_t_driver, .ref A_t_place, .ref A_t_isDone, .int V_t_position, .int V_t_isWrong, .long V_t_digested])), (A_t_s, .inl (cI, 77, .inl V_t_s))] [.ref A_t, .int x1]) (vp_Si (fun r' => r' = r0 ∧ True)) 0 0 (fun _ => False) := by
  refine bodyRi (cc := cX5_counted) (maxL := 2) (lv := [(0, .ref A_t), (1, .int x1)]) (by decide) rfl (Nat.le_of_ble_eq_true rfl) rfl ?_
  intro p e s m args below meth c Q hx hb hml hown hts hP hK fin ls hl
  replace hown : s.vm.findClass RX5 = some m.cls := hown
  have S : CallFix p m c cX5_counted 2 s args wsX5_counted RX5 := ⟨hx, hb, hml, hown, hts⟩
  unfold g_X5_counted at hg
  refine lv_iload_n hx hb dX5_counted_0 rfl (lv_at hl 1 rfl) ?_
  by_cases hk0 : x1 = 0
  · replace hg := if_yes hg hk0
    refine lv_tableIn (off := 67) (tgt := 68) hx hb dX5_counted_1 (by rw [hk0]; decide) (by rw [hk0]; decide) (by rw [hk0]; decide) (by decide) ?_
    refine lv_aload_n hx hb dX5_counted_68 rfl (lv_at hl 0 rfl) ?_
    refine xget (ci := 5) (C := RX5) (T := TX5) (N := 20) (v := .ref A_t_s) hx hb hts in_X5_counted_X5 hown hK hP 0 rfl rfl 1 (by decide) wd_X5_counted_1 rfl dX5_counted_69 ?_
    refine lv_bipush (v := 9) hx hb dX5_counted_72 (by decide) ?_
    obtain ⟨v1, hin, hv, hg⟩ := rdA_ex hg
    refine xiald hx hb hK hP 1 rfl hin hv dX5_counted_74 ?_
    cases hg
    exact fin _ _ dX5_counted_75
  · replace hg := if_no hg hk0
    by_cases hk1 : x1 = 1
    · replace hg := if_yes hg hk1
      refine lv_tableIn (off := 75) (tgt := 76) hx hb dX5_counted_1 (by rw [hk1]; decide) (by rw [hk1]; decide) (by rw [hk1]; decide) (by decide) ?_
      refine lv_aload_n hx hb dX5_counted_76 rfl (lv_at hl 0 rfl) ?_
      refine xget (ci := 5) (C := RX5) (T := TX5) (N := 20) (v := .ref A_t_s) hx hb hts in_X5_counted_X5 hown hK hP 0 rfl rfl 1 (by decide) wd_X5_counted_1 rfl dX5_counted_77 ?_
      refine lv_iconst (v := 0) hx hb dX5_counted_80 (by decide) ?_
      obtain ⟨v2, hin, hv, hg⟩ := rdA_ex hg
      refine xiald hx hb hK hP 1 rfl hin hv dX5_counted_81 ?_
      cases hg
      exact fin _ _ dX5_counted_82
    · replace hg := if_no hg hk1
      by_cases hk2 : x1 = 2
      · replace hg := if_yes hg hk2
        refine lv_tableIn (off := 82) (tgt := 83) hx hb dX5_counted_1 (by rw [hk2]; decide) (by rw [hk2]; decide) (by rw [hk2]; decide) (by decide) ?_
        refine lv_aload_n hx hb dX5_counted_83 rfl (lv_at hl 0 rfl) ?_
        refine xget (ci := 5) (C := RX5) (T := TX5) (N := 20) (v := .ref A_t_s) hx hb hts in_X5_counted_X5 hown hK hP 0 rfl rfl 1 (by decide) wd_X5_counted_1 rfl dX5_counted_84 ?_
        refine lv_iconst (v := 1) hx hb dX5_counted_87 (by decide) ?_
        obtain ⟨v3, hin, hv, hg⟩ := rdA_ex hg
        refine xiald hx hb hK hP 1 rfl hin hv dX5_counted_88 ?_
        cases hg
        exact fin _ _ dX5_counted_89
      · replace hg := if_no hg hk2
        by_cases hk3 : x1 = 3
        · replace hg := if_yes hg hk3
          refine lv_tableIn (off := 106) (tgt := 107) hx hb dX5_counted_1 (by rw [hk3]; decide) (by rw [hk3]; decide) (by rw [hk3]; decide) (by decide) ?_
          refine lv_aload_n hx hb dX5_counted_107 rfl (lv_at hl 0 rfl) ?_
          refine xget (ci := 5) (C := RX5) (T := TX5) (N := 20) (v := .ref A_t_s) hx hb hts in_X5_counted_X5 hown hK hP 0 rfl rfl 1 (by decide) wd_X5_counted_1 rfl dX5_counted_108 ?_
          refine lv_iconst (v := 2) hx hb dX5_counted_111 (by decide) ?_
          refine lv_iload_n hx hb dX5_counted_112 rfl (lv_at hl 1 rfl) ?_
          refine lv_iadd hx hb dX5_counted_113 ?_
          refine lv_iconst (v := 3) hx hb dX5_counted_114 (by decide) ?_
          refine lv_isub hx hb dX5_counted_115 ?_
          obtain ⟨v4, hin, hv, hg⟩ := rdA_ex hg
          refine xiald hx hb hK hP 1 rfl hin hv dX5_counted_116 ?_
          cases hg
          exact fin _ _ dX5_counted_117
        · replace hg := if_no hg hk3
          by_cases hk4 : x1 = 4
          · replace hg := if_yes hg hk4
            refine lv_tableIn (off := 106) (tgt := 107) hx hb dX5_counted_1 (by rw [hk4]; decide) (by rw [hk4]; decide) (by rw [hk4]; decide) (by decide) ?_
            refine lv_aload_n hx hb dX5_counted_107 rfl (lv_at hl 0 rfl) ?_
            refine xget (ci := 5) (C := RX5) (T := TX5) (N := 20) (v := .ref A_t_s) hx hb hts in_X5_counted_X5 hown hK hP 0 rfl rfl 1 (by decide) wd_X5_counted_1 rfl dX5_counted_108 ?_
            refine lv_iconst (v := 2) hx hb dX5_counted_111 (by decide) ?_
            refine lv_iload_n hx hb dX5_counted_112 rfl (lv_at hl 1 rfl) ?_
            refine lv_iadd hx hb dX5_counted_113 ?_
            refine lv_iconst (v := 3) hx hb dX5_counted_114 (by decide) ?_
            refine lv_isub hx hb dX5_counted_115 ?_
            obtain ⟨v5, hin, hv, hg⟩ := rdA_ex hg
            refine xiald hx hb hK hP 1 rfl hin hv dX5_counted_116 ?_
            cases hg
            exact fin _ _ dX5_counted_117
          · replace hg := if_no hg hk4
            by_cases hk5 : x1 = 5
            · replace hg := if_yes hg hk5
              refine lv_tableIn (off := 106) (tgt := 107) hx hb dX5_counted_1 (by rw [hk5]; decide) (by rw [hk5]; decide) (by rw [hk5]; decide) (by decide) ?_
              refine lv_aload_n hx hb dX5_counted_107 rfl (lv_at hl 0 rfl) ?_
              refine xget (ci := 5) (C := RX5) (T := TX5) (N := 20) (v := .ref A_t_s) hx hb hts in_X5_counted_X5 hown hK hP 0 rfl rfl 1 (by decide) wd_X5_counted_1 rfl dX5_counted_108 ?_
              refine lv_iconst (v := 2) hx hb dX5_counted_111 (by decide) ?_
              refine lv_iload_n hx hb dX5_counted_112 rfl (lv_at hl 1 rfl) ?_
              refine lv_iadd hx hb dX5_counted_113 ?_
              refine lv_iconst (v := 3) hx hb dX5_counted_114 (by decide) ?_
              refine lv_isub hx hb dX5_counted_115 ?_
              obtain ⟨v6, hin, hv, hg⟩ := rdA_ex hg
              refine xiald hx hb hK hP 1 rfl hin hv dX5_counted_116 ?_
              cases hg
              exact fin _ _ dX5_counted_117
            · replace hg := if_no hg hk5
              by_cases hk6 : x1 = 6
              · replace hg := if_yes hg hk6
                refine lv_tableIn (off := 106) (tgt := 107) hx hb dX5_counted_1 (by rw [hk6]; decide) (by rw [hk6]; decide) (by rw [hk6]; decide) (by decide) ?_
                refine lv_aload_n hx hb dX5_counted_107 rfl (lv_at hl 0 rfl) ?_
                refine xget (ci := 5) (C := RX5) (T := TX5) (N := 20) (v := .ref A_t_s) hx hb hts in_X5_counted_X5 hown hK hP 0 rfl rfl 1 (by decide) wd_X5_counted_1 rfl dX5_counted_108 ?_
                refine lv_iconst (v := 2) hx hb dX5_counted_111 (by decide) ?_
                refine lv_iload_n hx hb dX5_counted_112 rfl (lv_at hl 1 rfl) ?_
                refine lv_iadd hx hb dX5_counted_113 ?_
                refine lv_iconst (v := 3) hx hb dX5_counted_114 (by decide) ?_
                refine lv_isub hx hb dX5_counted_115 ?_
                obtain ⟨v7, hin, hv, hg⟩ := rdA_ex hg
                refine xiald hx hb hK hP 1 rfl hin hv dX5_counted_116 ?_
                cases hg
                exact fin _ _ dX5_counted_117
              · replace hg := if_no hg hk6
                by_cases hk7 : x1 = 7
                · replace hg := if_yes hg hk7
                  refine lv_tableIn (off := 106) (tgt := 107) hx hb dX5_counted_1 (by rw [hk7]; decide) (by rw [hk7]; decide) (by rw [hk7]; decide) (by decide) ?_
                  refine lv_aload_n hx hb dX5_counted_107 rfl (lv_at hl 0 rfl) ?_
                  refine xget (ci := 5) (C := RX5) (T := TX5) (N := 20) (v := .ref A_t_s) hx hb hts in_X5_counted_X5 hown hK hP 0 rfl rfl 1 (by decide) wd_X5_counted_1 rfl dX5_counted_108 ?_
                  refine lv_iconst (v := 2) hx hb dX5_counted_111 (by decide) ?_
                  refine lv_iload_n hx hb dX5_counted_112 rfl (lv_at hl 1 rfl) ?_
                  refine lv_iadd hx hb dX5_counted_113 ?_
                  refine lv_iconst (v := 3) hx hb dX5_counted_114 (by decide) ?_
                  refine lv_isub hx hb dX5_counted_115 ?_
                  obtain ⟨v8, hin, hv, hg⟩ := rdA_ex hg
                  refine xiald hx hb hK hP 1 rfl hin hv dX5_counted_116 ?_
                  cases hg
                  exact fin _ _ dX5_counted_117
                · replace hg := if_no hg hk7
                  by_cases hk8 : x1 = 8
                  · replace hg := if_yes hg hk8
                    refine lv_tableIn (off := 106) (tgt := 107) hx hb dX5_counted_1 (by rw [hk8]; decide) (by rw [hk8]; decide) (by rw [hk8]; decide) (by decide) ?_
                    refine lv_aload_n hx hb dX5_counted_107 rfl (lv_at hl 0 rfl) ?_
                    refine xget (ci := 5) (C := RX5) (T := TX5) (N := 20) (v := .ref A_t_s) hx hb hts in_X5_counted_X5 hown hK hP 0 rfl rfl 1 (by decide) wd_X5_counted_1 rfl dX5_counted_108 ?_
                    refine lv_iconst (v := 2) hx hb dX5_counted_111 (by decide) ?_
                    refine lv_iload_n hx hb dX5_counted_112 rfl (lv_at hl 1 rfl) ?_
                    refine lv_iadd hx hb dX5_counted_113 ?_
                    refine lv_iconst (v := 3) hx hb dX5_counted_114 (by decide) ?_
                    refine lv_isub hx hb dX5_counted_115 ?_
                    obtain ⟨v9, hin, hv, hg⟩ := rdA_ex hg
                    refine xiald hx hb hK hP 1 rfl hin hv dX5_counted_116 ?_
                    cases hg
                    exact fin _ _ dX5_counted_117
                  · replace hg := if_no hg hk8
                    by_cases hk9 : x1 = 9
                    · replace hg := if_yes hg hk9
                      refine lv_tableIn (off := 106) (tgt := 107) hx hb dX5_counted_1 (by rw [hk9]; decide) (by rw [hk9]; decide) (by rw [hk9]; decide) (by decide) ?_
                      refine lv_aload_n hx hb dX5_counted_107 rfl (lv_at hl 0 rfl) ?_
                      refine xget (ci := 5) (C := RX5) (T := TX5) (N := 20) (v := .ref A_t_s) hx hb hts in_X5_counted_X5 hown hK hP 0 rfl rfl 1 (by decide) wd_X5_counted_1 rfl dX5_counted_108 ?_
                      refine lv_iconst (v := 2) hx hb dX5_counted_111 (by decide) ?_
                      refine lv_iload_n hx hb dX5_counted_112 rfl (lv_at hl 1 rfl) ?_
                      refine lv_iadd hx hb dX5_counted_113 ?_
                      refine lv_iconst (v := 3) hx hb dX5_counted_114 (by decide) ?_
                      refine lv_isub hx hb dX5_counted_115 ?_
                      obtain ⟨v10, hin, hv, hg⟩ := rdA_ex hg
                      refine xiald hx hb hK hP 1 rfl hin hv dX5_counted_116 ?_
                      cases hg
                      exact fin _ _ dX5_counted_117
                    · replace hg := if_no hg hk9
                      by_cases hk10 : x1 = 10
                      · replace hg := if_yes hg hk10
                        refine lv_tableIn (off := 89) (tgt := 90) hx hb dX5_counted_1 (by rw [hk10]; decide) (by rw [hk10]; decide) (by rw [hk10]; decide) (by decide) ?_
                        refine lv_aload_n hx hb dX5_counted_90 rfl (lv_at hl 0 rfl) ?_
                        refine lv_iconst (v := 1) hx hb dX5_counted_91 (by decide) ?_
                        obtain ⟨v11, hq, hg⟩ := bind_ex hg
                        refine callRVi (As := [.int 1]) (rest := []) S hK hP (c_X5_ordersOf l D cI cZ cB cJ A_t A_t_s A_t_aside A_t_snapshot A_t_saved A_t_text A_t_counts A_t_isCut A_t_strength A_t_fails A_t_why A_t_driver A_t_place A_t_isDone V_t_thrown V_t_isKept V_t_savedMany V_t_length V_t_position V_t_isWrong V_t_digested V_t_s 1 v11 hq) [0, 1] rfl (cwV 1 hts gX5_counted_X5_ordersOf rfl rfl rfl hd_X5_ordersOf ⟨Nat.le_of_ble_eq_true rfl, Nat.le_of_ble_eq_true rfl⟩) rfl rfl rfl hl.1 rfl (Nat.le_of_ble_eq_true rfl) dX5_counted_92 ⟨Nat.zero_le _, Nat.zero_le _⟩ ?_
                        cases hg
                        exact fin _ _ dX5_counted_95
                      · replace hg := if_no hg hk10
                        by_cases hk11 : x1 = 11
                        · replace hg := if_yes hg hk11
                          refine lv_tableIn (off := 95) (tgt := 96) hx hb dX5_counted_1 (by rw [hk11]; decide) (by rw [hk11]; decide) (by rw [hk11]; decide) (by decide) ?_
                          refine lv_aload_n hx hb dX5_counted_96 rfl (lv_at hl 0 rfl) ?_
                          refine lv_iconst (v := 2) hx hb dX5_counted_97 (by decide) ?_
                          obtain ⟨v12, hq, hg⟩ := bind_ex hg
                          refine callRVi (As := [.int 2]) (rest := []) S hK hP (c_X5_ordersOf l D cI cZ cB cJ A_t A_t_s A_t_aside A_t_snapshot A_t_saved A_t_text A_t_counts A_t_isCut A_t_strength A_t_fails A_t_why A_t_driver A_t_place A_t_isDone V_t_thrown V_t_isKept V_t_savedMany V_t_length V_t_position V_t_isWrong V_t_digested V_t_s 2 v12 hq) [0, 1] rfl (cwV 1 hts gX5_counted_X5_ordersOf rfl rfl rfl hd_X5_ordersOf ⟨Nat.le_of_ble_eq_true rfl, Nat.le_of_ble_eq_true rfl⟩) rfl rfl rfl hl.1 rfl (Nat.le_of_ble_eq_true rfl) dX5_counted_98 ⟨Nat.zero_le _, Nat.zero_le _⟩ ?_
                          cases hg
                          exact fin _ _ dX5_counted_101
                        · replace hg := if_no hg hk11
                          by_cases hk12 : x1 = 12
                          · replace hg := if_yes hg hk12
                            refine lv_tableIn (off := 101) (tgt := 102) hx hb dX5_counted_1 (by rw [hk12]; decide) (by rw [hk12]; decide) (by rw [hk12]; decide) (by decide) ?_
                            refine lv_aload_n hx hb dX5_counted_102 rfl (lv_at hl 0 rfl) ?_
                            refine xget (ci := 5) (C := RX5) (T := TX5) (N := 20) (v := .int V_t_savedMany) hx hb hts in_X5_counted_X5 hown hK hP 0 rfl rfl 6 (by decide) wd_X5_counted_2 rfl dX5_counted_103 ?_
                            cases hg
                            exact fin _ _ dX5_counted_106
                          · replace hg := if_no hg hk12
                            refine lv_tableOut (tgt := 107) hx hb dX5_counted_1 (sw_out (fun k h1 h2 => by rcases (show k = 0 ∨ k = 1 ∨ k = 2 ∨ k = 3 ∨ k = 4 ∨ k = 5 ∨ k = 6 ∨ k = 7 ∨ k = 8 ∨ k = 9 ∨ k = 10 ∨ k = 11 ∨ k = 12 by omega) with rfl | rfl | rfl | rfl | rfl | rfl | rfl | rfl | rfl | rfl | rfl | rfl | rfl <;> first | exact hk0 | exact hk1 | exact hk2 | exact hk3 | exact hk4 | exact hk5 | exact hk6 | exact hk7 | exact hk8 | exact hk9 | exact hk10 | exact hk11 | exact hk12)) (by decide) ?_
                            refine lv_aload_n hx hb dX5_counted_107 rfl (lv_at hl 0 rfl) ?_
                            refine xget (ci := 5) (C := RX5) (T := TX5) (N := 20) (v := .ref A_t_s) hx hb hts in_X5_counted_X5 hown hK hP 0 rfl rfl 1 (by decide) wd_X5_counted_1 rfl dX5_counted_108 ?_
                            refine lv_iconst (v := 2) hx hb dX5_counted_111 (by decide) ?_
                            refine lv_iload_n hx hb dX5_counted_112 rfl (lv_at hl 1 rfl) ?_
                            refine lv_iadd hx hb dX5_counted_113 ?_
                            refine lv_iconst (v := 3) hx hb dX5_counted_114 (by decide) ?_
                            refine lv_isub hx hb dX5_counted_115 ?_
                            obtain ⟨v13, hin, hv, hg⟩ := rdA_ex hg
                            refine xiald hx hb hK hP 1 rfl hin hv dX5_counted_116 ?_
                            cases hg
                            exact fin _ _ dX5_counted_117
theorem hd_X5_count : yX5_count.cls = RX5 ∧ yX5_count.cls ≠ "java/lang/invoke/MethodHandle" ∧ yX5_count.cls ≠ "java/lang/invoke/VarHandle" ∧ (parseMethodDescriptor yX5_count.desc).map (fun d => d.parameters.length) = some 1 := by decide +kernel
abbrev rX5_count : Room := { frames := 4, cells := 0, slots := 0, locals := 87 }
set_option maxHeartbeats 4000000 in
set_option maxRecDepth 100000 in
theorem c_X5_count (l : Launch) (D : va_G) (cI cZ cB cJ : ClassId) (A_t : Nat) (A_t_s : Nat) (A_t_aside : Nat) (A_t_snapshot : Nat) (A_t_saved : Nat) (A_t_text : Nat) (A_t_counts : Nat) (A_t_isCut : Nat) (A_t_strength : Nat) (A_t_fails : Nat) (A_t_why : Nat) (A_t_driver : Nat) (A_t_place : Nat) (A_t_isDone : Nat) (sz : Nat) (V_t_thrown : Int32) (V_t_isKept : Int32) (V_t_savedMany : Int32) (V_t_length : Int32) (V_t_position : Int32) (V_t_isWrong : Int32) (V_t_digested : Int64) (V_t_s : Nat → Int32) (x1 : Int32) (r0 : Int32) (w1 : Int32) (hg : g_X5_count V_t_thrown V_t_savedMany V_t_s x1 = some (r0, w1)) : Met l yX5_count wsX5_count rX5_count (PcW D cI cZ cB cJ sz [(A_t, .inr (5, [.int V_t_thrown, .ref A_t_s, .ref A_t_aside, .ref A_t_snapshot, .int V_t_isKept, .ref A_t_saved, .int V_t_savedMany, .ref A_t_text, .int V_t_length, .ref A_t_counts, .ref A_t_isCut, .ref A_t_strength, .ref A_t_fails, .ref A_t_why, .ref A_t_driver, .ref A_t_place, .ref A_t_isDone, .int V_t_position, .int V_t_isWrong, .long V_t_digested])), (A_t_s, .inl (cI, 77, .inl V_t_s))] [.ref A_t, .int x1]) (QWi D cI cZ cB cJ sz [(A_t, .inr (5, [.int V_t_thrown, .ref A_t_s, .ref A_t_aside, .ref A_t_snapshot, .int V_t_isKept, .ref A_t_saved, .int V_t_savedMany, .ref A_t_text, .int V_t_length, .ref A_t_counts, .ref A_t_isCut, .ref A_t_strength, .ref A_t_fails, .ref A_t_why, .ref A_t_driver, .ref A_t_place, .ref A_t_isDone, .int V_t_position, .int V_t_isWrong, .long V_t_digested])), (A_t_s, .inl (cI, 77, .inl V_t_s))] [(A_t, .inr (5, [.int w1, .ref A_t_s, .ref A_t_aside, .ref A_t_snapshot, .int V_t_isKept, .ref A_t_saved, .int V_t_savedMany, .ref A_t_text, .int V_t_length, .ref A_t_counts, .ref A_t_isCut, .ref A_t_strength, .ref A_t_fails, .ref A_t_why, .ref A_t_driver, .ref A_t_place, .ref A_t_isDone, .int V_t_position, .int V_t_isWrong, .long V_t_digested])), (A_t_s, .inl (cI, 77, .inl V_t_s))] r0) 0 0 (va_A [(A_t, .inr (5, [.int V_t_thrown, .ref A_t_s, .ref A_t_aside, .ref A_t_snapshot, .int V_t_isKept, .ref A_t_saved, .int V_t_savedMany, .ref A_t_text, .int V_t_length, .ref A_t_counts, .ref A_t_isCut, .ref A_t_strength, .ref A_t_fails, .ref A_t_why, .ref A_t_driver, .ref A_t_place, .ref A_t_isDone, .int V_t_position, .int V_t_isWrong, .long V_t_digested])), (A_t_s, .inl (cI, 77, .inl V_t_s))] sz) := by
  refine bodyWi (cc := cX5_count) (maxL := 2) (lv := [(0, .ref A_t), (1, .int x1)]) (by decide) rfl (Nat.le_of_ble_eq_true rfl) rfl ?_
  intro p e s m args below meth c Q hx hb hml hown hts A hP hK hD hA hS fin ls hl
  replace hown : s.vm.findClass RX5 = some m.cls := hown
  have S : CallFix p m c cX5_count 2 s args wsX5_count RX5 := ⟨hx, hb, hml, hown, hts⟩
  unfold g_X5_count at hg
  refine lv_aload_n hx hb dX5_count_0 rfl (lv_at hl 0 rfl) ?_
  refine lv_iload_n hx hb dX5_count_1 rfl (lv_at hl 1 rfl) ?_
  refine lv_iconst (v := 0) hx hb dX5_count_2 (by decide) ?_
  refine lv_bipush (v := 12) hx hb dX5_count_3 (by decide) ?_
  obtain ⟨v1, hq, hg⟩ := bind_ex hg
  refine callRSz (As := [.int x1, .int 0, .int 12]) (rest := [.ref A_t]) S hK hP (c_X5_in l D cI cZ cB cJ x1 0 12 v1 hq) [] rfl (va_cwS 3 hts gX5_count_X5_in rfl rfl rfl hd_X5_in ⟨Nat.le_of_ble_eq_true rfl, Nat.le_of_ble_eq_true rfl⟩) rfl hl.1 rfl (Nat.le_of_ble_eq_true rfl) dX5_count_5 ⟨Nat.zero_le _, Nat.zero_le _⟩ (fun hz_v1 => ?_)
  have hJ1 : ∀ (v2 : Int32), bo v2 → ∀ (H : Heap) (locs : List Loc), va_P D vwCl [(A_t, .inr (5, [.int V_t_thrown, .ref A_t_s, .ref A_t_aside, .ref A_t_snapshot, .int V_t_isKept, .ref A_t_saved, .int V_t_savedMany, .ref A_t_text, .int V_t_length, .ref A_t_counts, .ref A_t_isCut, .ref A_t_strength, .ref A_t_fails, .ref A_t_why, .ref A_t_driver, .ref A_t_place, .ref A_t_isDone, .int V_t_position, .int V_t_isWrong, .long V_t_digested])), (A_t_s, .inl (cI, 77, .inl V_t_s))] H → va_D A [(A_t, .inr (5, [.int V_t_thrown, .ref A_t_s, .ref A_t_aside, .ref A_t_snapshot, .int V_t_isKept, .ref A_t_saved, .int V_t_savedMany, .ref A_t_text, .int V_t_length, .ref A_t_counts, .ref A_t_isCut, .ref A_t_strength, .ref A_t_fails, .ref A_t_why, .ref A_t_driver, .ref A_t_place, .ref A_t_isDone, .int V_t_position, .int V_t_isWrong, .long V_t_digested])), (A_t_s, .inl (cI, 77, .inl V_t_s))] → va_S A s.heap H locs → ∀ ls : Array Slot, lv_has ls 2 [(0, .ref A_t), (1, .int x1)] → g_X5_count_J1 V_t_thrown V_t_savedMany V_t_s x1 v2 = some (r0, w1) → W p l e rX5_count s m args below meth c H locs 0 0 Q (F0 m 16 ls [.int v2, .ref A_t]) := by
    intro v2 hz_v2 H locs hP hD hS ls hl hg
    unfold g_X5_count_J1 at hg
    obtain ⟨v4, v3, hq, hg⟩ := b2_ex hg
    refine callWVz (As := [.int v2]) (rest := []) (wr := [(A_t_s, .inl (cI, 77, .inl V_t_s))]) S hK hP hD hS hA (c_X5_holds l D cI cZ cB cJ A_t A_t_s A_t_aside A_t_snapshot A_t_saved A_t_text A_t_counts A_t_isCut A_t_strength A_t_fails A_t_why A_t_driver A_t_place A_t_isDone _ V_t_thrown V_t_isKept V_t_savedMany V_t_length V_t_position V_t_isWrong V_t_digested v2 v4 v3 hq) [0] [1] rfl rfl (by decide +kernel) (by decide +kernel) (by decide +kernel) (cwV 1 hts gX5_count_X5_holds rfl rfl rfl hd_X5_holds ⟨Nat.le_of_ble_eq_true rfl, Nat.le_of_ble_eq_true rfl⟩) rfl rfl rfl hl.1 rfl (Nat.le_of_ble_eq_true rfl) dX5_count_16 ⟨Nat.zero_le _, Nat.zero_le _⟩ (fun hz_v4 H locs hP hD hS => ?_)
    replace hP : va_P D vwCl [(A_t_s, .inl (cI, 77, .inl V_t_s)), (A_t, .inr (5, [.int v3, .ref A_t_s, .ref A_t_aside, .ref A_t_snapshot, .int V_t_isKept, .ref A_t_saved, .int V_t_savedMany, .ref A_t_text, .int V_t_length, .ref A_t_counts, .ref A_t_isCut, .ref A_t_strength, .ref A_t_fails, .ref A_t_why, .ref A_t_driver, .ref A_t_place, .ref A_t_isDone, .int V_t_position, .int V_t_isWrong, .long V_t_digested]))] H := hP
    replace hD : va_D A [(A_t_s, .inl (cI, 77, .inl V_t_s)), (A_t, .inr (5, [.int v3, .ref A_t_s, .ref A_t_aside, .ref A_t_snapshot, .int V_t_isKept, .ref A_t_saved, .int V_t_savedMany, .ref A_t_text, .int V_t_length, .ref A_t_counts, .ref A_t_isCut, .ref A_t_strength, .ref A_t_fails, .ref A_t_why, .ref A_t_driver, .ref A_t_place, .ref A_t_isDone, .int V_t_position, .int V_t_isWrong, .long V_t_digested]))] := hD
    refine lv_if_eq (tgt := 30) hx hb dX5_count_19 (by decide) (fun hc => ?_) (fun hc => ?_)
    · replace hg := if_yes hg hc
      refine lv_iconst (v := 0) hx hb dX5_count_30 (by decide) ?_
      cases hg
      exact fin _ _ _ _ dX5_count_31 (hP.sub [1, 0] rfl) (hD.sub [1, 0] (by decide) rfl) hS
    · replace hg := if_no hg hc
      refine lv_aload_n hx hb dX5_count_22 rfl (lv_at hl 0 rfl) ?_
      refine lv_iload_n hx hb dX5_count_23 rfl (lv_at hl 1 rfl) ?_
      obtain ⟨v5, hq, hg⟩ := bind_ex hg
      refine callRVi (As := [.int x1]) (rest := []) S hK hP (c_X5_counted l D cI cZ cB cJ A_t A_t_s A_t_aside A_t_snapshot A_t_saved A_t_text A_t_counts A_t_isCut A_t_strength A_t_fails A_t_why A_t_driver A_t_place A_t_isDone v3 V_t_isKept V_t_savedMany V_t_length V_t_position V_t_isWrong V_t_digested V_t_s x1 v5 hq) [1, 0] rfl (cwV 1 hts gX5_count_X5_counted rfl rfl rfl hd_X5_counted ⟨Nat.le_of_ble_eq_true rfl, Nat.le_of_ble_eq_true rfl⟩) rfl rfl rfl hl.1 rfl (Nat.le_of_ble_eq_true rfl) dX5_count_24 ⟨Nat.zero_le _, Nat.zero_le _⟩ ?_
      refine lv_goto (tgt := 31) hx hb dX5_count_27 (by decide) ?_
      cases hg
      exact fin _ _ _ _ dX5_count_31 (hP.sub [1, 0] rfl) (hD.sub [1, 0] (by decide) rfl) hS
  refine lv_if_eq (tgt := 15) hx hb dX5_count_8 (by decide) (fun hc => ?_) (fun hc => ?_)
  · replace hg := if_yes hg hc
    refine lv_iconst (v := 1) hx hb dX5_count_15 (by decide) ?_
    exact hJ1 _ bo_1 _ _ hP hD hS _ (lv_sub hl [0, 1] rfl) hg
  · replace hg := if_no hg hc
    refine lv_iconst (v := 0) hx hb dX5_count_11 (by decide) ?_
    refine lv_goto (tgt := 16) hx hb dX5_count_12 (by decide) ?_
    exact hJ1 _ bo_0 _ _ hP hD hS _ (lv_sub hl [0, 1] rfl) hg
theorem hd_X5_opened : yX5_opened.cls = RX5 ∧ yX5_opened.cls ≠ "java/lang/invoke/MethodHandle" ∧ yX5_opened.cls ≠ "java/lang/invoke/VarHandle" ∧ (parseMethodDescriptor yX5_opened.desc).map (fun d => d.parameters.length) = some 2 := by decide +kernel
theorem in_X5_opened_X5 : ∀ w ∈ u_ws RX5 TX5 20, w ∈ wsX5_opened := fun _ h => List.mem_cons_of_mem _ (List.mem_append_right _ h)
theorem wd_X5_opened_1 : Cond.fieldLink RX5 44 "FogOrdersModel" "place" "[I" ∈ wsX5_opened := List.mem_of_getElem? (i := 1) rfl
theorem wd_X5_opened_2 : Cond.fieldLink RX5 32 "FogOrdersModel" "strength" "[I" ∈ wsX5_opened := List.mem_of_getElem? (i := 2) rfl
theorem wd_X5_opened_3 : Cond.fieldLink RX5 38 "FogOrdersModel" "why" "[I" ∈ wsX5_opened := List.mem_of_getElem? (i := 3) rfl
theorem wd_X5_opened_4 : Cond.fieldLink RX5 41 "FogOrdersModel" "driver" "[I" ∈ wsX5_opened := List.mem_of_getElem? (i := 4) rfl
theorem wd_X5_opened_5 : Cond.fieldLink RX5 25 "FogOrdersModel" "counts" "[Z" ∈ wsX5_opened := List.mem_of_getElem? (i := 5) rfl
theorem wd_X5_opened_6 : Cond.fieldLink RX5 29 "FogOrdersModel" "isCut" "[Z" ∈ wsX5_opened := List.mem_of_getElem? (i := 6) rfl
abbrev rX5_opened : Room := { frames := 7, cells := 0, slots := 0, locals := 154 }
set_option maxHeartbeats 4000000 in
set_option maxRecDepth 100000 in
theorem c_X5_opened (l : Launch) (D : va_G) (cI cZ cB cJ : ClassId) (A_t : Nat) (A_t_s : Nat) (A_t_aside : Nat) (A_t_snapshot : Nat) (A_t_saved : Nat) (A_t_text : Nat) (A_t_counts : Nat) (A_t_isCut : Nat) (A_t_strength : Nat) (A_t_fails : Nat) (A_t_why : Nat) (A_t_driver : Nat) (A_t_place : Nat) (A_t_isDone : Nat) (sz : Nat) (V_t_thrown : Int32) (V_t_isKept : Int32) (V_t_savedMany : Int32) (V_t_length : Int32) (V_t_position : Int32) (V_t_isWrong : Int32) (V_t_digested : Int64) (V_t_s : Nat → Int32) (V_t_isCut : Nat → Int32) (V_t_counts : Nat → Int32) (V_t_strength : Nat → Int32) (V_t_fails : Nat → Int32) (V_t_driver : Nat → Int32) (V_t_why : Nat → Int32) (V_t_isDone : Nat → Int32) (V_t_place : Nat → Int32) (x1 : Int32) (x2 : Int32) (r0 : Int32) (w1 : Nat → Int32) (w2 : Nat → Int32) (w3 : Nat → Int32) (w4 : Nat → Int32) (w5 : Nat → Int32) (w6 : Nat → Int32) (w7 : Nat → Int32) (w8 : Nat → Int32) (hg : g_X5_opened V_t_s V_t_isCut V_t_counts V_t_strength V_t_fails V_t_driver V_t_why V_t_isDone V_t_place x1 x2 = some (r0, w1, w2, w3, w4, w5, w6, w7, w8)) : Met l yX5_opened wsX5_opened rX5_opened (PcW D cI cZ cB cJ sz [(A_t, .inr (5, [.int V_t_thrown, .ref A_t_s, .ref A_t_aside, .ref A_t_snapshot, .int V_t_isKept, .ref A_t_saved, .int V_t_savedMany, .ref A_t_text, .int V_t_length, .ref A_t_counts, .ref A_t_isCut, .ref A_t_strength, .ref A_t_fails, .ref A_t_why, .ref A_t_driver, .ref A_t_place, .ref A_t_isDone, .int V_t_position, .int V_t_isWrong, .long V_t_digested])), (A_t_s, .inl (cI, 77, .inl V_t_s)), (A_t_isCut, .inl (cZ, 9, .inl V_t_isCut)), (A_t_counts, .inl (cZ, 9, .inl V_t_counts)), (A_t_strength, .inl (cI, 9, .inl V_t_strength)), (A_t_fails, .inl (cZ, 9, .inl V_t_fails)), (A_t_driver, .inl (cI, 9, .inl V_t_driver)), (A_t_why, .inl (cI, 9, .inl V_t_why)), (A_t_isDone, .inl (cZ, 9, .inl V_t_isDone)), (A_t_place, .inl (cI, 9, .inl V_t_place))] [.ref A_t, .int x1, .int x2]) (QWi D cI cZ cB cJ sz [(A_t, .inr (5, [.int V_t_thrown, .ref A_t_s, .ref A_t_aside, .ref A_t_snapshot, .int V_t_isKept, .ref A_t_saved, .int V_t_savedMany, .ref A_t_text, .int V_t_length, .ref A_t_counts, .ref A_t_isCut, .ref A_t_strength, .ref A_t_fails, .ref A_t_why, .ref A_t_driver, .ref A_t_place, .ref A_t_isDone, .int V_t_position, .int V_t_isWrong, .long V_t_digested])), (A_t_s, .inl (cI, 77, .inl V_t_s)), (A_t_isCut, .inl (cZ, 9, .inl V_t_isCut)), (A_t_counts, .inl (cZ, 9, .inl V_t_counts)), (A_t_strength, .inl (cI, 9, .inl V_t_strength)), (A_t_fails, .inl (cZ, 9, .inl V_t_fails)), (A_t_driver, .inl (cI, 9, .inl V_t_driver)), (A_t_why, .inl (cI, 9, .inl V_t_why)), (A_t_isDone, .inl (cZ, 9, .inl V_t_isDone)), (A_t_place, .inl (cI, 9, .inl V_t_place))] [(A_t, .inr (5, [.int V_t_thrown, .ref A_t_s, .ref A_t_aside, .ref A_t_snapshot, .int V_t_isKept, .ref A_t_saved, .int V_t_savedMany, .ref A_t_text, .int V_t_length, .ref A_t_counts, .ref A_t_isCut, .ref A_t_strength, .ref A_t_fails, .ref A_t_why, .ref A_t_driver, .ref A_t_place, .ref A_t_isDone, .int V_t_position, .int V_t_isWrong, .long V_t_digested])), (A_t_s, .inl (cI, 77, .inl V_t_s)), (A_t_isCut, .inl (cZ, 9, .inl w1)), (A_t_counts, .inl (cZ, 9, .inl w2)), (A_t_strength, .inl (cI, 9, .inl w3)), (A_t_fails, .inl (cZ, 9, .inl w4)), (A_t_driver, .inl (cI, 9, .inl w5)), (A_t_why, .inl (cI, 9, .inl w6)), (A_t_isDone, .inl (cZ, 9, .inl w7)), (A_t_place, .inl (cI, 9, .inl w8))] r0) 0 0 (va_A [(A_t, .inr (5, [.int V_t_thrown, .ref A_t_s, .ref A_t_aside, .ref A_t_snapshot, .int V_t_isKept, .ref A_t_saved, .int V_t_savedMany, .ref A_t_text, .int V_t_length, .ref A_t_counts, .ref A_t_isCut, .ref A_t_strength, .ref A_t_fails, .ref A_t_why, .ref A_t_driver, .ref A_t_place, .ref A_t_isDone, .int V_t_position, .int V_t_isWrong, .long V_t_digested])), (A_t_s, .inl (cI, 77, .inl V_t_s)), (A_t_isCut, .inl (cZ, 9, .inl V_t_isCut)), (A_t_counts, .inl (cZ, 9, .inl V_t_counts)), (A_t_strength, .inl (cI, 9, .inl V_t_strength)), (A_t_fails, .inl (cZ, 9, .inl V_t_fails)), (A_t_driver, .inl (cI, 9, .inl V_t_driver)), (A_t_why, .inl (cI, 9, .inl V_t_why)), (A_t_isDone, .inl (cZ, 9, .inl V_t_isDone)), (A_t_place, .inl (cI, 9, .inl V_t_place))] sz) := by
  refine bodyWi (cc := cX5_opened) (maxL := 3) (lv := [(0, .ref A_t), (1, .int x1), (2, .int x2)]) (by decide) rfl (Nat.le_of_ble_eq_true rfl) rfl ?_
  intro p e s m args below meth c Q hx hb hml hown hts A hP hK hD hA hS fin ls hl
  replace hown : s.vm.findClass RX5 = some m.cls := hown
  have S : CallFix p m c cX5_opened 3 s args wsX5_opened RX5 := ⟨hx, hb, hml, hown, hts⟩
  unfold g_X5_opened at hg
  refine lv_aload_n hx hb dX5_opened_0 rfl (lv_at hl 0 rfl) ?_
  obtain ⟨f1, f2, f3, f4, f5, f6, f7, f8, hq, hg⟩ := b8_ex hg
  refine callWVv (As := []) (rest := []) (wr := []) S hK hP hD hS hA (c_X5_layOpening l D cI cZ cB cJ A_t A_t_s A_t_aside A_t_snapshot A_t_saved A_t_text A_t_counts A_t_isCut A_t_strength A_t_fails A_t_why A_t_driver A_t_place A_t_isDone _ V_t_thrown V_t_isKept V_t_savedMany V_t_length V_t_position V_t_isWrong V_t_digested V_t_s V_t_isCut V_t_counts V_t_strength V_t_fails V_t_driver V_t_why V_t_isDone V_t_place f1 f2 f3 f4 f5 f6 f7 f8 hq) [0, 1, 2, 3, 4, 5, 6, 7, 8, 9] [] rfl rfl (by decide +kernel) (by decide +kernel) (by decide +kernel) (cwV 0 hts gX5_opened_X5_layOpening rfl rfl rfl hd_X5_layOpening ⟨Nat.le_of_ble_eq_true rfl, Nat.le_of_ble_eq_true rfl⟩) rfl rfl rfl hl.1 rfl (Nat.le_of_ble_eq_true rfl) dX5_opened_1 ⟨Nat.zero_le _, Nat.zero_le _⟩ (fun H locs hP hD hS => ?_)
  replace hP : va_P D vwCl [(A_t, .inr (5, [.int V_t_thrown, .ref A_t_s, .ref A_t_aside, .ref A_t_snapshot, .int V_t_isKept, .ref A_t_saved, .int V_t_savedMany, .ref A_t_text, .int V_t_length, .ref A_t_counts, .ref A_t_isCut, .ref A_t_strength, .ref A_t_fails, .ref A_t_why, .ref A_t_driver, .ref A_t_place, .ref A_t_isDone, .int V_t_position, .int V_t_isWrong, .long V_t_digested])), (A_t_s, .inl (cI, 77, .inl V_t_s)), (A_t_isCut, .inl (cZ, 9, .inl f1)), (A_t_counts, .inl (cZ, 9, .inl f2)), (A_t_strength, .inl (cI, 9, .inl f3)), (A_t_fails, .inl (cZ, 9, .inl f4)), (A_t_driver, .inl (cI, 9, .inl f5)), (A_t_why, .inl (cI, 9, .inl f6)), (A_t_isDone, .inl (cZ, 9, .inl f7)), (A_t_place, .inl (cI, 9, .inl f8))] H := hP
  replace hD : va_D A [(A_t, .inr (5, [.int V_t_thrown, .ref A_t_s, .ref A_t_aside, .ref A_t_snapshot, .int V_t_isKept, .ref A_t_saved, .int V_t_savedMany, .ref A_t_text, .int V_t_length, .ref A_t_counts, .ref A_t_isCut, .ref A_t_strength, .ref A_t_fails, .ref A_t_why, .ref A_t_driver, .ref A_t_place, .ref A_t_isDone, .int V_t_position, .int V_t_isWrong, .long V_t_digested])), (A_t_s, .inl (cI, 77, .inl V_t_s)), (A_t_isCut, .inl (cZ, 9, .inl f1)), (A_t_counts, .inl (cZ, 9, .inl f2)), (A_t_strength, .inl (cI, 9, .inl f3)), (A_t_fails, .inl (cZ, 9, .inl f4)), (A_t_driver, .inl (cI, 9, .inl f5)), (A_t_why, .inl (cI, 9, .inl f6)), (A_t_isDone, .inl (cZ, 9, .inl f7)), (A_t_place, .inl (cI, 9, .inl f8))] := hD
  refine lv_iload_n hx hb dX5_opened_4 rfl (lv_at hl 2 rfl) ?_
  by_cases hk0 : x2 = 0
  · replace hg := if_yes hg hk0
    refine lv_tableIn (off := 35) (tgt := 40) hx hb dX5_opened_5 (by rw [hk0]; decide) (by rw [hk0]; decide) (by rw [hk0]; decide) (by decide) ?_
    refine lv_aload_n hx hb dX5_opened_40 rfl (lv_at hl 0 rfl) ?_
    refine xget (ci := 5) (C := RX5) (T := TX5) (N := 20) (v := .ref A_t_place) hx hb hts in_X5_opened_X5 hown hK hP 0 rfl rfl 15 (by decide) wd_X5_opened_1 rfl dX5_opened_41 ?_
    refine lv_iload_n hx hb dX5_opened_44 rfl (lv_at hl 1 rfl) ?_
    obtain ⟨v9, hin, hv, hg⟩ := rdA_ex hg
    refine xiald hx hb hK hP 9 rfl hin hv dX5_opened_45 ?_
    cases hg
    exact fin _ _ _ _ dX5_opened_46 hP hD hS
  · replace hg := if_no hg hk0
    by_cases hk1 : x2 = 1
    · replace hg := if_yes hg hk1
      refine lv_tableIn (off := 42) (tgt := 47) hx hb dX5_opened_5 (by rw [hk1]; decide) (by rw [hk1]; decide) (by rw [hk1]; decide) (by decide) ?_
      refine lv_aload_n hx hb dX5_opened_47 rfl (lv_at hl 0 rfl) ?_
      refine xget (ci := 5) (C := RX5) (T := TX5) (N := 20) (v := .ref A_t_strength) hx hb hts in_X5_opened_X5 hown hK hP 0 rfl rfl 11 (by decide) wd_X5_opened_2 rfl dX5_opened_48 ?_
      refine lv_iload_n hx hb dX5_opened_51 rfl (lv_at hl 1 rfl) ?_
      obtain ⟨v10, hin, hv, hg⟩ := rdA_ex hg
      refine xiald hx hb hK hP 4 rfl hin hv dX5_opened_52 ?_
      cases hg
      exact fin _ _ _ _ dX5_opened_53 hP hD hS
    · replace hg := if_no hg hk1
      by_cases hk2 : x2 = 2
      · replace hg := if_yes hg hk2
        refine lv_tableIn (off := 49) (tgt := 54) hx hb dX5_opened_5 (by rw [hk2]; decide) (by rw [hk2]; decide) (by rw [hk2]; decide) (by decide) ?_
        refine lv_aload_n hx hb dX5_opened_54 rfl (lv_at hl 0 rfl) ?_
        refine xget (ci := 5) (C := RX5) (T := TX5) (N := 20) (v := .ref A_t_why) hx hb hts in_X5_opened_X5 hown hK hP 0 rfl rfl 13 (by decide) wd_X5_opened_3 rfl dX5_opened_55 ?_
        refine lv_iload_n hx hb dX5_opened_58 rfl (lv_at hl 1 rfl) ?_
        obtain ⟨v11, hin, hv, hg⟩ := rdA_ex hg
        refine xiald hx hb hK hP 7 rfl hin hv dX5_opened_59 ?_
        cases hg
        exact fin _ _ _ _ dX5_opened_60 hP hD hS
      · replace hg := if_no hg hk2
        by_cases hk3 : x2 = 3
        · replace hg := if_yes hg hk3
          refine lv_tableIn (off := 56) (tgt := 61) hx hb dX5_opened_5 (by rw [hk3]; decide) (by rw [hk3]; decide) (by rw [hk3]; decide) (by decide) ?_
          refine lv_aload_n hx hb dX5_opened_61 rfl (lv_at hl 0 rfl) ?_
          refine xget (ci := 5) (C := RX5) (T := TX5) (N := 20) (v := .ref A_t_driver) hx hb hts in_X5_opened_X5 hown hK hP 0 rfl rfl 14 (by decide) wd_X5_opened_4 rfl dX5_opened_62 ?_
          refine lv_iload_n hx hb dX5_opened_65 rfl (lv_at hl 1 rfl) ?_
          obtain ⟨v12, hin, hv, hg⟩ := rdA_ex hg
          refine xiald hx hb hK hP 6 rfl hin hv dX5_opened_66 ?_
          refine lv_iconst (v := (-1)) hx hb dX5_opened_67 (by decide) ?_
          refine lv_icmp_ne (tgt := 75) hx hb dX5_opened_68 (by decide) (fun hc => ?_) (fun hc => ?_)
          · replace hg := if_no hg hc
            refine lv_iconst (v := 1) hx hb dX5_opened_75 (by decide) ?_
            cases hg
            exact fin _ _ _ _ dX5_opened_76 hP hD hS
          · replace hg := if_yes hg hc
            refine lv_iconst (v := 0) hx hb dX5_opened_71 (by decide) ?_
            refine lv_goto (tgt := 76) hx hb dX5_opened_72 (by decide) ?_
            cases hg
            exact fin _ _ _ _ dX5_opened_76 hP hD hS
        · replace hg := if_no hg hk3
          by_cases hk4 : x2 = 4
          · replace hg := if_yes hg hk4
            refine lv_tableIn (off := 72) (tgt := 77) hx hb dX5_opened_5 (by rw [hk4]; decide) (by rw [hk4]; decide) (by rw [hk4]; decide) (by decide) ?_
            refine lv_aload_n hx hb dX5_opened_77 rfl (lv_at hl 0 rfl) ?_
            refine xget (ci := 5) (C := RX5) (T := TX5) (N := 20) (v := .ref A_t_counts) hx hb hts in_X5_opened_X5 hown hK hP 0 rfl rfl 9 (by decide) wd_X5_opened_5 rfl dX5_opened_78 ?_
            refine lv_iload_n hx hb dX5_opened_81 rfl (lv_at hl 1 rfl) ?_
            obtain ⟨v13, hin, hv, hg⟩ := rdA_ex hg
            refine xzald hx hb hK hP 3 rfl hin hv dX5_opened_82 ?_
            refine lv_if_eq (tgt := 90) hx hb dX5_opened_83 (by decide) (fun hc => ?_) (fun hc => ?_)
            · replace hg := if_yes hg hc
              refine lv_iconst (v := 0) hx hb dX5_opened_90 (by decide) ?_
              cases hg
              exact fin _ _ _ _ dX5_opened_91 hP hD hS
            · replace hg := if_no hg hc
              refine lv_iconst (v := 1) hx hb dX5_opened_86 (by decide) ?_
              refine lv_goto (tgt := 91) hx hb dX5_opened_87 (by decide) ?_
              cases hg
              exact fin _ _ _ _ dX5_opened_91 hP hD hS
          · replace hg := if_no hg hk4
            refine lv_tableOut (tgt := 92) hx hb dX5_opened_5 (sw_out (fun k h1 h2 => by rcases (show k = 0 ∨ k = 1 ∨ k = 2 ∨ k = 3 ∨ k = 4 by omega) with rfl | rfl | rfl | rfl | rfl <;> first | exact hk0 | exact hk1 | exact hk2 | exact hk3 | exact hk4)) (by decide) ?_
            refine lv_aload_n hx hb dX5_opened_92 rfl (lv_at hl 0 rfl) ?_
            refine xget (ci := 5) (C := RX5) (T := TX5) (N := 20) (v := .ref A_t_isCut) hx hb hts in_X5_opened_X5 hown hK hP 0 rfl rfl 10 (by decide) wd_X5_opened_6 rfl dX5_opened_93 ?_
            refine lv_iload_n hx hb dX5_opened_96 rfl (lv_at hl 1 rfl) ?_
            obtain ⟨v14, hin, hv, hg⟩ := rdA_ex hg
            refine xzald hx hb hK hP 2 rfl hin hv dX5_opened_97 ?_
            refine lv_if_eq (tgt := 105) hx hb dX5_opened_98 (by decide) (fun hc => ?_) (fun hc => ?_)
            · replace hg := if_yes hg hc
              refine lv_iconst (v := 0) hx hb dX5_opened_105 (by decide) ?_
              cases hg
              exact fin _ _ _ _ dX5_opened_106 hP hD hS
            · replace hg := if_no hg hc
              refine lv_iconst (v := 1) hx hb dX5_opened_101 (by decide) ?_
              refine lv_goto (tgt := 106) hx hb dX5_opened_102 (by decide) ?_
              cases hg
              exact fin _ _ _ _ dX5_opened_106 hP hD hS
theorem hd_X5_ifOpened : yX5_ifOpened.cls = RX5 ∧ yX5_ifOpened.cls ≠ "java/lang/invoke/MethodHandle" ∧ yX5_ifOpened.cls ≠ "java/lang/invoke/VarHandle" ∧ (parseMethodDescriptor yX5_ifOpened.desc).map (fun d => d.parameters.length) = some 2 := by decide +kernel
abbrev rX5_ifOpened : Room := { frames := 8, cells := 0, slots := 0, locals := 176 }
set_option maxHeartbeats 4000000 in
set_option maxRecDepth 100000 in
theorem c_X5_ifOpened (l : Launch) (D : va_G) (cI cZ cB cJ : ClassId) (A_t : Nat) (A_t_s : Nat) (A_t_aside : Nat) (A_t_snapshot : Nat) (A_t_saved : Nat) (A_t_text : Nat) (A_t_counts : Nat) (A_t_isCut : Nat) (A_t_strength : Nat) (A_t_fails : Nat) (A_t_why : Nat) (A_t_driver : Nat) (A_t_place : Nat) (A_t_isDone : Nat) (sz : Nat) (V_t_thrown : Int32) (V_t_isKept : Int32) (V_t_savedMany : Int32) (V_t_length : Int32) (V_t_position : Int32) (V_t_isWrong : Int32) (V_t_digested : Int64) (V_t_s : Nat → Int32) (V_t_isCut : Nat → Int32) (V_t_counts : Nat → Int32) (V_t_strength : Nat → Int32) (V_t_fails : Nat → Int32) (V_t_driver : Nat → Int32) (V_t_why : Nat → Int32) (V_t_isDone : Nat → Int32) (V_t_place : Nat → Int32) (x1 : Int32) (x2 : Int32) (r0 : Int32) (w1 : Int32) (w2 : Nat → Int32) (w3 : Nat → Int32) (w4 : Nat → Int32) (w5 : Nat → Int32) (w6 : Nat → Int32) (w7 : Nat → Int32) (w8 : Nat → Int32) (w9 : Nat → Int32) (hg : g_X5_ifOpened V_t_thrown V_t_s V_t_isCut V_t_counts V_t_strength V_t_fails V_t_driver V_t_why V_t_isDone V_t_place x1 x2 = some (r0, w1, w2, w3, w4, w5, w6, w7, w8, w9)) : Met l yX5_ifOpened wsX5_ifOpened rX5_ifOpened (PcW D cI cZ cB cJ sz [(A_t, .inr (5, [.int V_t_thrown, .ref A_t_s, .ref A_t_aside, .ref A_t_snapshot, .int V_t_isKept, .ref A_t_saved, .int V_t_savedMany, .ref A_t_text, .int V_t_length, .ref A_t_counts, .ref A_t_isCut, .ref A_t_strength, .ref A_t_fails, .ref A_t_why, .ref A_t_driver, .ref A_t_place, .ref A_t_isDone, .int V_t_position, .int V_t_isWrong, .long V_t_digested])), (A_t_s, .inl (cI, 77, .inl V_t_s)), (A_t_isCut, .inl (cZ, 9, .inl V_t_isCut)), (A_t_counts, .inl (cZ, 9, .inl V_t_counts)), (A_t_strength, .inl (cI, 9, .inl V_t_strength)), (A_t_fails, .inl (cZ, 9, .inl V_t_fails)), (A_t_driver, .inl (cI, 9, .inl V_t_driver)), (A_t_why, .inl (cI, 9, .inl V_t_why)), (A_t_isDone, .inl (cZ, 9, .inl V_t_isDone)), (A_t_place, .inl (cI, 9, .inl V_t_place))] [.ref A_t, .int x1, .int x2]) (QWi D cI cZ cB cJ sz [(A_t, .inr (5, [.int V_t_thrown, .ref A_t_s, .ref A_t_aside, .ref A_t_snapshot, .int V_t_isKept, .ref A_t_saved, .int V_t_savedMany, .ref A_t_text, .int V_t_length, .ref A_t_counts, .ref A_t_isCut, .ref A_t_strength, .ref A_t_fails, .ref A_t_why, .ref A_t_driver, .ref A_t_place, .ref A_t_isDone, .int V_t_position, .int V_t_isWrong, .long V_t_digested])), (A_t_s, .inl (cI, 77, .inl V_t_s)), (A_t_isCut, .inl (cZ, 9, .inl V_t_isCut)), (A_t_counts, .inl (cZ, 9, .inl V_t_counts)), (A_t_strength, .inl (cI, 9, .inl V_t_strength)), (A_t_fails, .inl (cZ, 9, .inl V_t_fails)), (A_t_driver, .inl (cI, 9, .inl V_t_driver)), (A_t_why, .inl (cI, 9, .inl V_t_why)), (A_t_isDone, .inl (cZ, 9, .inl V_t_isDone)), (A_t_place, .inl (cI, 9, .inl V_t_place))] [(A_t, .inr (5, [.int w1, .ref A_t_s, .ref A_t_aside, .ref A_t_snapshot, .int V_t_isKept, .ref A_t_saved, .int V_t_savedMany, .ref A_t_text, .int V_t_length, .ref A_t_counts, .ref A_t_isCut, .ref A_t_strength, .ref A_t_fails, .ref A_t_why, .ref A_t_driver, .ref A_t_place, .ref A_t_isDone, .int V_t_position, .int V_t_isWrong, .long V_t_digested])), (A_t_s, .inl (cI, 77, .inl V_t_s)), (A_t_isCut, .inl (cZ, 9, .inl w2)), (A_t_counts, .inl (cZ, 9, .inl w3)), (A_t_strength, .inl (cI, 9, .inl w4)), (A_t_fails, .inl (cZ, 9, .inl w5)), (A_t_driver, .inl (cI, 9, .inl w6)), (A_t_why, .inl (cI, 9, .inl w7)), (A_t_isDone, .inl (cZ, 9, .inl w8)), (A_t_place, .inl (cI, 9, .inl w9))] r0) 0 0 (va_A [(A_t, .inr (5, [.int V_t_thrown, .ref A_t_s, .ref A_t_aside, .ref A_t_snapshot, .int V_t_isKept, .ref A_t_saved, .int V_t_savedMany, .ref A_t_text, .int V_t_length, .ref A_t_counts, .ref A_t_isCut, .ref A_t_strength, .ref A_t_fails, .ref A_t_why, .ref A_t_driver, .ref A_t_place, .ref A_t_isDone, .int V_t_position, .int V_t_isWrong, .long V_t_digested])), (A_t_s, .inl (cI, 77, .inl V_t_s)), (A_t_isCut, .inl (cZ, 9, .inl V_t_isCut)), (A_t_counts, .inl (cZ, 9, .inl V_t_counts)), (A_t_strength, .inl (cI, 9, .inl V_t_strength)), (A_t_fails, .inl (cZ, 9, .inl V_t_fails)), (A_t_driver, .inl (cI, 9, .inl V_t_driver)), (A_t_why, .inl (cI, 9, .inl V_t_why)), (A_t_isDone, .inl (cZ, 9, .inl V_t_isDone)), (A_t_place, .inl (cI, 9, .inl V_t_place))] sz) := by
  refine bodyWi (cc := cX5_ifOpened) (maxL := 3) (lv := [(0, .ref A_t), (1, .int x1), (2, .int x2)]) (by decide) rfl (Nat.le_of_ble_eq_true rfl) rfl ?_
  intro p e s m args below meth c Q hx hb hml hown hts A hP hK hD hA hS fin ls hl
  replace hown : s.vm.findClass RX5 = some m.cls := hown
  have S : CallFix p m c cX5_ifOpened 3 s args wsX5_ifOpened RX5 := ⟨hx, hb, hml, hown, hts⟩
  unfold g_X5_ifOpened at hg
  refine lv_aload_n hx hb dX5_ifOpened_0 rfl (lv_at hl 0 rfl) ?_
  refine lv_aload_n hx hb dX5_ifOpened_1 rfl (lv_at hl 0 rfl) ?_
  refine lv_iload_n hx hb dX5_ifOpened_2 rfl (lv_at hl 1 rfl) ?_
  obtain ⟨v1, hq, hg⟩ := bind_ex hg
  refine callRVz (As := [.int x1]) (rest := [.ref A_t]) S hK hP (c_X5_isArmy l D cI cZ cB cJ A_t A_t_s A_t_aside A_t_snapshot A_t_saved A_t_text A_t_counts A_t_isCut A_t_strength A_t_fails A_t_why A_t_driver A_t_place A_t_isDone V_t_thrown V_t_isKept V_t_savedMany V_t_length V_t_position V_t_isWrong V_t_digested V_t_s x1 v1 hq) [0, 1] rfl (cwV 1 hts gX5_ifOpened_X5_isArmy rfl rfl rfl hd_X5_isArmy ⟨Nat.le_of_ble_eq_true rfl, Nat.le_of_ble_eq_true rfl⟩) rfl rfl rfl hl.1 rfl (Nat.le_of_ble_eq_true rfl) dX5_ifOpened_3 ⟨Nat.zero_le _, Nat.zero_le _⟩ (fun hz_v1 => ?_)
  have hJ1 : ∀ (v3 : Int32), ∀ (H : Heap) (locs : List Loc), va_P D vwCl [(A_t, .inr (5, [.int V_t_thrown, .ref A_t_s, .ref A_t_aside, .ref A_t_snapshot, .int V_t_isKept, .ref A_t_saved, .int V_t_savedMany, .ref A_t_text, .int V_t_length, .ref A_t_counts, .ref A_t_isCut, .ref A_t_strength, .ref A_t_fails, .ref A_t_why, .ref A_t_driver, .ref A_t_place, .ref A_t_isDone, .int V_t_position, .int V_t_isWrong, .long V_t_digested])), (A_t_s, .inl (cI, 77, .inl V_t_s)), (A_t_isCut, .inl (cZ, 9, .inl V_t_isCut)), (A_t_counts, .inl (cZ, 9, .inl V_t_counts)), (A_t_strength, .inl (cI, 9, .inl V_t_strength)), (A_t_fails, .inl (cZ, 9, .inl V_t_fails)), (A_t_driver, .inl (cI, 9, .inl V_t_driver)), (A_t_why, .inl (cI, 9, .inl V_t_why)), (A_t_isDone, .inl (cZ, 9, .inl V_t_isDone)), (A_t_place, .inl (cI, 9, .inl V_t_place))] H → va_D A [(A_t, .inr (5, [.int V_t_thrown, .ref A_t_s, .ref A_t_aside, .ref A_t_snapshot, .int V_t_isKept, .ref A_t_saved, .int V_t_savedMany, .ref A_t_text, .int V_t_length, .ref A_t_counts, .ref A_t_isCut, .ref A_t_strength, .ref A_t_fails, .ref A_t_why, .ref A_t_driver, .ref A_t_place, .ref A_t_isDone, .int V_t_position, .int V_t_isWrong, .long V_t_digested])), (A_t_s, .inl (cI, 77, .inl V_t_s)), (A_t_isCut, .inl (cZ, 9, .inl V_t_isCut)), (A_t_counts, .inl (cZ, 9, .inl V_t_counts)), (A_t_strength, .inl (cI, 9, .inl V_t_strength)), (A_t_fails, .inl (cZ, 9, .inl V_t_fails)), (A_t_driver, .inl (cI, 9, .inl V_t_driver)), (A_t_why, .inl (cI, 9, .inl V_t_why)), (A_t_isDone, .inl (cZ, 9, .inl V_t_isDone)), (A_t_place, .inl (cI, 9, .inl V_t_place))] → va_S A s.heap H locs → ∀ ls : Array Slot, lv_has ls 3 [(0, .ref A_t), (1, .int x1), (2, .int x2)] → g_X5_ifOpened_J1 V_t_thrown V_t_isCut V_t_counts V_t_strength V_t_fails V_t_driver V_t_why V_t_isDone V_t_place V_t_s x1 x2 v3 = some (r0, w1, w2, w3, w4, w5, w6, w7, w8, w9) → W p l e rX5_ifOpened s m args below meth c H locs 0 0 Q (F0 m 27 ls [.int v3, .ref A_t]) := by
    intro v3 H locs hP hD hS ls hl hg
    unfold g_X5_ifOpened_J1 at hg
    obtain ⟨v5, v4, hq, hg⟩ := b2_ex hg
    refine callWVz (As := [.int v3]) (rest := []) (wr := [(A_t_s, .inl (cI, 77, .inl V_t_s)), (A_t_isCut, .inl (cZ, 9, .inl V_t_isCut)), (A_t_counts, .inl (cZ, 9, .inl V_t_counts)), (A_t_strength, .inl (cI, 9, .inl V_t_strength)), (A_t_fails, .inl (cZ, 9, .inl V_t_fails)), (A_t_driver, .inl (cI, 9, .inl V_t_driver)), (A_t_why, .inl (cI, 9, .inl V_t_why)), (A_t_isDone, .inl (cZ, 9, .inl V_t_isDone)), (A_t_place, .inl (cI, 9, .inl V_t_place))]) S hK hP hD hS hA (c_X5_holds l D cI cZ cB cJ A_t A_t_s A_t_aside A_t_snapshot A_t_saved A_t_text A_t_counts A_t_isCut A_t_strength A_t_fails A_t_why A_t_driver A_t_place A_t_isDone _ V_t_thrown V_t_isKept V_t_savedMany V_t_length V_t_position V_t_isWrong V_t_digested v3 v5 v4 hq) [0] [1, 2, 3, 4, 5, 6, 7, 8, 9] rfl rfl (by decide +kernel) (by decide +kernel) (by decide +kernel) (cwV 1 hts gX5_ifOpened_X5_holds rfl rfl rfl hd_X5_holds ⟨Nat.le_of_ble_eq_true rfl, Nat.le_of_ble_eq_true rfl⟩) rfl rfl rfl hl.1 rfl (Nat.le_of_ble_eq_true rfl) dX5_ifOpened_27 ⟨Nat.zero_le _, Nat.zero_le _⟩ (fun hz_v5 H locs hP hD hS => ?_)
    replace hP : va_P D vwCl [(A_t_s, .inl (cI, 77, .inl V_t_s)), (A_t_isCut, .inl (cZ, 9, .inl V_t_isCut)), (A_t_counts, .inl (cZ, 9, .inl V_t_counts)), (A_t_strength, .inl (cI, 9, .inl V_t_strength)), (A_t_fails, .inl (cZ, 9, .inl V_t_fails)), (A_t_driver, .inl (cI, 9, .inl V_t_driver)), (A_t_why, .inl (cI, 9, .inl V_t_why)), (A_t_isDone, .inl (cZ, 9, .inl V_t_isDone)), (A_t_place, .inl (cI, 9, .inl V_t_place)), (A_t, .inr (5, [.int v4, .ref A_t_s, .ref A_t_aside, .ref A_t_snapshot, .int V_t_isKept, .ref A_t_saved, .int V_t_savedMany, .ref A_t_text, .int V_t_length, .ref A_t_counts, .ref A_t_isCut, .ref A_t_strength, .ref A_t_fails, .ref A_t_why, .ref A_t_driver, .ref A_t_place, .ref A_t_isDone, .int V_t_position, .int V_t_isWrong, .long V_t_digested]))] H := hP
    replace hD : va_D A [(A_t_s, .inl (cI, 77, .inl V_t_s)), (A_t_isCut, .inl (cZ, 9, .inl V_t_isCut)), (A_t_counts, .inl (cZ, 9, .inl V_t_counts)), (A_t_strength, .inl (cI, 9, .inl V_t_strength)), (A_t_fails, .inl (cZ, 9, .inl V_t_fails)), (A_t_driver, .inl (cI, 9, .inl V_t_driver)), (A_t_why, .inl (cI, 9, .inl V_t_why)), (A_t_isDone, .inl (cZ, 9, .inl V_t_isDone)), (A_t_place, .inl (cI, 9, .inl V_t_place)), (A_t, .inr (5, [.int v4, .ref A_t_s, .ref A_t_aside, .ref A_t_snapshot, .int V_t_isKept, .ref A_t_saved, .int V_t_savedMany, .ref A_t_text, .int V_t_length, .ref A_t_counts, .ref A_t_isCut, .ref A_t_strength, .ref A_t_fails, .ref A_t_why, .ref A_t_driver, .ref A_t_place, .ref A_t_isDone, .int V_t_position, .int V_t_isWrong, .long V_t_digested]))] := hD
    refine lv_if_eq (tgt := 42) hx hb dX5_ifOpened_30 (by decide) (fun hc => ?_) (fun hc => ?_)
    · replace hg := if_yes hg hc
      refine lv_iconst (v := 0) hx hb dX5_ifOpened_42 (by decide) ?_
      cases hg
      exact fin _ _ _ _ dX5_ifOpened_43 (hP.sub [9, 0, 1, 2, 3, 4, 5, 6, 7, 8] rfl) (hD.sub [9, 0, 1, 2, 3, 4, 5, 6, 7, 8] (by decide) rfl) hS
    · replace hg := if_no hg hc
      refine lv_aload_n hx hb dX5_ifOpened_33 rfl (lv_at hl 0 rfl) ?_
      refine lv_iload_n hx hb dX5_ifOpened_34 rfl (lv_at hl 1 rfl) ?_
      refine lv_iload_n hx hb dX5_ifOpened_35 rfl (lv_at hl 2 rfl) ?_
      obtain ⟨v14, f6, f7, f8, f9, f10, f11, f12, f13, hq, hg⟩ := b9_ex hg
      refine callWV (As := [.int x1, .int x2]) (rest := []) (wr := []) S hK hP hD hS hA (c_X5_opened l D cI cZ cB cJ A_t A_t_s A_t_aside A_t_snapshot A_t_saved A_t_text A_t_counts A_t_isCut A_t_strength A_t_fails A_t_why A_t_driver A_t_place A_t_isDone _ v4 V_t_isKept V_t_savedMany V_t_length V_t_position V_t_isWrong V_t_digested V_t_s V_t_isCut V_t_counts V_t_strength V_t_fails V_t_driver V_t_why V_t_isDone V_t_place x1 x2 v14 f6 f7 f8 f9 f10 f11 f12 f13 hq) [9, 0, 1, 2, 3, 4, 5, 6, 7, 8] [] rfl rfl (by decide +kernel) (by decide +kernel) (by decide +kernel) (cwV 2 hts gX5_ifOpened_X5_opened rfl rfl rfl hd_X5_opened ⟨Nat.le_of_ble_eq_true rfl, Nat.le_of_ble_eq_true rfl⟩) rfl rfl rfl hl.1 rfl (Nat.le_of_ble_eq_true rfl) dX5_ifOpened_36 ⟨Nat.zero_le _, Nat.zero_le _⟩ (fun H locs hP hD hS => ?_)
      replace hP : va_P D vwCl [(A_t, .inr (5, [.int v4, .ref A_t_s, .ref A_t_aside, .ref A_t_snapshot, .int V_t_isKept, .ref A_t_saved, .int V_t_savedMany, .ref A_t_text, .int V_t_length, .ref A_t_counts, .ref A_t_isCut, .ref A_t_strength, .ref A_t_fails, .ref A_t_why, .ref A_t_driver, .ref A_t_place, .ref A_t_isDone, .int V_t_position, .int V_t_isWrong, .long V_t_digested])), (A_t_s, .inl (cI, 77, .inl V_t_s)), (A_t_isCut, .inl (cZ, 9, .inl f6)), (A_t_counts, .inl (cZ, 9, .inl f7)), (A_t_strength, .inl (cI, 9, .inl f8)), (A_t_fails, .inl (cZ, 9, .inl f9)), (A_t_driver, .inl (cI, 9, .inl f10)), (A_t_why, .inl (cI, 9, .inl f11)), (A_t_isDone, .inl (cZ, 9, .inl f12)), (A_t_place, .inl (cI, 9, .inl f13))] H := hP
      replace hD : va_D A [(A_t, .inr (5, [.int v4, .ref A_t_s, .ref A_t_aside, .ref A_t_snapshot, .int V_t_isKept, .ref A_t_saved, .int V_t_savedMany, .ref A_t_text, .int V_t_length, .ref A_t_counts, .ref A_t_isCut, .ref A_t_strength, .ref A_t_fails, .ref A_t_why, .ref A_t_driver, .ref A_t_place, .ref A_t_isDone, .int V_t_position, .int V_t_isWrong, .long V_t_digested])), (A_t_s, .inl (cI, 77, .inl V_t_s)), (A_t_isCut, .inl (cZ, 9, .inl f6)), (A_t_counts, .inl (cZ, 9, .inl f7)), (A_t_strength, .inl (cI, 9, .inl f8)), (A_t_fails, .inl (cZ, 9, .inl f9)), (A_t_driver, .inl (cI, 9, .inl f10)), (A_t_why, .inl (cI, 9, .inl f11)), (A_t_isDone, .inl (cZ, 9, .inl f12)), (A_t_place, .inl (cI, 9, .inl f13))] := hD
      refine lv_goto (tgt := 43) hx hb dX5_ifOpened_39 (by decide) ?_
      cases hg
      exact fin _ _ _ _ dX5_ifOpened_43 hP hD hS
  refine lv_if_ne (tgt := 13) hx hb dX5_ifOpened_6 (by decide) (fun hc => ?_) (fun hc => ?_)
  · replace hg := if_no hg hc
    refine lv_iload_n hx hb dX5_ifOpened_13 rfl (lv_at hl 2 rfl) ?_
    refine lv_iconst (v := 0) hx hb dX5_ifOpened_14 (by decide) ?_
    refine lv_iconst (v := 5) hx hb dX5_ifOpened_15 (by decide) ?_
    obtain ⟨v2, hq, hg⟩ := bind_ex hg
    refine callRSz (As := [.int x2, .int 0, .int 5]) (rest := [.ref A_t]) S hK hP (c_X5_in l D cI cZ cB cJ x2 0 5 v2 hq) [] rfl (va_cwS 3 hts gX5_ifOpened_X5_in rfl rfl rfl hd_X5_in ⟨Nat.le_of_ble_eq_true rfl, Nat.le_of_ble_eq_true rfl⟩) rfl hl.1 rfl (Nat.le_of_ble_eq_true rfl) dX5_ifOpened_16 ⟨Nat.zero_le _, Nat.zero_le _⟩ (fun hz_v2 => ?_)
    refine lv_if_ne (tgt := 26) hx hb dX5_ifOpened_19 (by decide) (fun hc => ?_) (fun hc => ?_)
    · replace hg := if_no hg hc
      refine lv_iconst (v := 0) hx hb dX5_ifOpened_26 (by decide) ?_
      exact hJ1 _ _ _ hP hD hS _ (lv_sub hl [0, 1, 2] rfl) hg
    · replace hg := if_yes hg hc
      refine lv_iconst (v := 2) hx hb dX5_ifOpened_22 (by decide) ?_
      refine lv_goto (tgt := 27) hx hb dX5_ifOpened_23 (by decide) ?_
      exact hJ1 _ _ _ hP hD hS _ (lv_sub hl [0, 1, 2] rfl) hg
  · replace hg := if_yes hg hc
    refine lv_iconst (v := 1) hx hb dX5_ifOpened_9 (by decide) ?_
    refine lv_goto (tgt := 27) hx hb dX5_ifOpened_10 (by decide) ?_
    exact hJ1 _ _ _ hP hD hS _ (lv_sub hl [0, 1, 2] rfl) hg
theorem hd_X5_reach : yX5_reach.cls = RX5 ∧ yX5_reach.cls ≠ "java/lang/invoke/MethodHandle" ∧ yX5_reach.cls ≠ "java/lang/invoke/VarHandle" ∧ (parseMethodDescriptor yX5_reach.desc).map (fun d => d.parameters.length) = some 1 := by decide +kernel
theorem in_X5_reach_X5 : ∀ w ∈ u_ws RX5 TX5 20, w ∈ wsX5_reach := fun _ h => List.mem_cons_of_mem _ (List.mem_append_right _ h)
theorem wd_X5_reach_1 : Cond.fieldLink RX5 35 "FogOrdersModel" "fails" "[Z" ∈ wsX5_reach := List.mem_of_getElem? (i := 1) rfl
abbrev rX5_reach : Room := { frames := 7, cells := 0, slots := 0, locals := 154 }
set_option maxHeartbeats 4000000 in
set_option maxRecDepth 100000 in
theorem c_X5_reach (l : Launch) (D : va_G) (cI cZ cB cJ : ClassId) (A_t : Nat) (A_t_s : Nat) (A_t_aside : Nat) (A_t_snapshot : Nat) (A_t_saved : Nat) (A_t_text : Nat) (A_t_counts : Nat) (A_t_isCut : Nat) (A_t_strength : Nat) (A_t_fails : Nat) (A_t_why : Nat) (A_t_driver : Nat) (A_t_place : Nat) (A_t_isDone : Nat) (sz : Nat) (V_t_thrown : Int32) (V_t_isKept : Int32) (V_t_savedMany : Int32) (V_t_length : Int32) (V_t_position : Int32) (V_t_isWrong : Int32) (V_t_digested : Int64) (V_t_s : Nat → Int32) (V_t_aside : Nat → Int32) (V_t_isCut : Nat → Int32) (V_t_counts : Nat → Int32) (V_t_strength : Nat → Int32) (V_t_fails : Nat → Int32) (V_t_driver : Nat → Int32) (V_t_why : Nat → Int32) (V_t_isDone : Nat → Int32) (V_t_place : Nat → Int32) (x1 : Int32) (r0 : Int32) (w1 : Nat → Int32) (w2 : Nat → Int32) (w3 : Nat → Int32) (w4 : Nat → Int32) (w5 : Nat → Int32) (w6 : Nat → Int32) (w7 : Nat → Int32) (w8 : Nat → Int32) (w9 : Nat → Int32) (w10 : Nat → Int32) (hg : g_X5_reach V_t_s V_t_aside V_t_isCut V_t_counts V_t_strength V_t_fails V_t_driver V_t_why V_t_isDone V_t_place x1 = some (r0, w1, w2, w3, w4, w5, w6, w7, w8, w9, w10)) : Met l yX5_reach wsX5_reach rX5_reach (PcW D cI cZ cB cJ sz [(A_t, .inr (5, [.int V_t_thrown, .ref A_t_s, .ref A_t_aside, .ref A_t_snapshot, .int V_t_isKept, .ref A_t_saved, .int V_t_savedMany, .ref A_t_text, .int V_t_length, .ref A_t_counts, .ref A_t_isCut, .ref A_t_strength, .ref A_t_fails, .ref A_t_why, .ref A_t_driver, .ref A_t_place, .ref A_t_isDone, .int V_t_position, .int V_t_isWrong, .long V_t_digested])), (A_t_s, .inl (cI, 77, .inl V_t_s)), (A_t_aside, .inl (cI, 77, .inl V_t_aside)), (A_t_isCut, .inl (cZ, 9, .inl V_t_isCut)), (A_t_counts, .inl (cZ, 9, .inl V_t_counts)), (A_t_strength, .inl (cI, 9, .inl V_t_strength)), (A_t_fails, .inl (cZ, 9, .inl V_t_fails)), (A_t_driver, .inl (cI, 9, .inl V_t_driver)), (A_t_why, .inl (cI, 9, .inl V_t_why)), (A_t_isDone, .inl (cZ, 9, .inl V_t_isDone)), (A_t_place, .inl (cI, 9, .inl V_t_place))] [.ref A_t, .int x1]) (QWi D cI cZ cB cJ sz [(A_t, .inr (5, [.int V_t_thrown, .ref A_t_s, .ref A_t_aside, .ref A_t_snapshot, .int V_t_isKept, .ref A_t_saved, .int V_t_savedMany, .ref A_t_text, .int V_t_length, .ref A_t_counts, .ref A_t_isCut, .ref A_t_strength, .ref A_t_fails, .ref A_t_why, .ref A_t_driver, .ref A_t_place, .ref A_t_isDone, .int V_t_position, .int V_t_isWrong, .long V_t_digested])), (A_t_s, .inl (cI, 77, .inl V_t_s)), (A_t_aside, .inl (cI, 77, .inl V_t_aside)), (A_t_isCut, .inl (cZ, 9, .inl V_t_isCut)), (A_t_counts, .inl (cZ, 9, .inl V_t_counts)), (A_t_strength, .inl (cI, 9, .inl V_t_strength)), (A_t_fails, .inl (cZ, 9, .inl V_t_fails)), (A_t_driver, .inl (cI, 9, .inl V_t_driver)), (A_t_why, .inl (cI, 9, .inl V_t_why)), (A_t_isDone, .inl (cZ, 9, .inl V_t_isDone)), (A_t_place, .inl (cI, 9, .inl V_t_place))] [(A_t, .inr (5, [.int V_t_thrown, .ref A_t_s, .ref A_t_aside, .ref A_t_snapshot, .int V_t_isKept, .ref A_t_saved, .int V_t_savedMany, .ref A_t_text, .int V_t_length, .ref A_t_counts, .ref A_t_isCut, .ref A_t_strength, .ref A_t_fails, .ref A_t_why, .ref A_t_driver, .ref A_t_place, .ref A_t_isDone, .int V_t_position, .int V_t_isWrong, .long V_t_digested])), (A_t_s, .inl (cI, 77, .inl w1)), (A_t_aside, .inl (cI, 77, .inl w2)), (A_t_isCut, .inl (cZ, 9, .inl w3)), (A_t_counts, .inl (cZ, 9, .inl w4)), (A_t_strength, .inl (cI, 9, .inl w5)), (A_t_fails, .inl (cZ, 9, .inl w6)), (A_t_driver, .inl (cI, 9, .inl w7)), (A_t_why, .inl (cI, 9, .inl w8)), (A_t_isDone, .inl (cZ, 9, .inl w9)), (A_t_place, .inl (cI, 9, .inl w10))] r0) 0 0 (va_A [(A_t, .inr (5, [.int V_t_thrown, .ref A_t_s, .ref A_t_aside, .ref A_t_snapshot, .int V_t_isKept, .ref A_t_saved, .int V_t_savedMany, .ref A_t_text, .int V_t_length, .ref A_t_counts, .ref A_t_isCut, .ref A_t_strength, .ref A_t_fails, .ref A_t_why, .ref A_t_driver, .ref A_t_place, .ref A_t_isDone, .int V_t_position, .int V_t_isWrong, .long V_t_digested])), (A_t_s, .inl (cI, 77, .inl V_t_s)), (A_t_aside, .inl (cI, 77, .inl V_t_aside)), (A_t_isCut, .inl (cZ, 9, .inl V_t_isCut)), (A_t_counts, .inl (cZ, 9, .inl V_t_counts)), (A_t_strength, .inl (cI, 9, .inl V_t_strength)), (A_t_fails, .inl (cZ, 9, .inl V_t_fails)), (A_t_driver, .inl (cI, 9, .inl V_t_driver)), (A_t_why, .inl (cI, 9, .inl V_t_why)), (A_t_isDone, .inl (cZ, 9, .inl V_t_isDone)), (A_t_place, .inl (cI, 9, .inl V_t_place))] sz) := by
  refine bodyWi (cc := cX5_reach) (maxL := 4) (lv := [(0, .ref A_t), (1, .int x1)]) (by decide) rfl (Nat.le_of_ble_eq_true rfl) rfl ?_
  intro p e s m args below meth c Q hx hb hml hown hts A hP hK hD hA hS fin ls hl
  replace hown : s.vm.findClass RX5 = some m.cls := hown
  have S : CallFix p m c cX5_reach 4 s args wsX5_reach RX5 := ⟨hx, hb, hml, hown, hts⟩
  unfold g_X5_reach at hg
  refine lv_iconst (v := 0) hx hb dX5_reach_0 (by decide) ?_
  refine lv_istore_n (lv' := [(2, .int 0), (0, .ref A_t), (1, .int x1)]) hx hb dX5_reach_1 rfl hl (by decide) rfl (fun ls hl => ?_)
  refine lv_aload_n hx hb dX5_reach_2 rfl (lv_at hl 1 rfl) ?_
  obtain ⟨f1, hq, hg⟩ := bind_ex hg
  refine callWVv (As := []) (rest := []) (wr := [(A_t_isCut, .inl (cZ, 9, .inl V_t_isCut)), (A_t_counts, .inl (cZ, 9, .inl V_t_counts)), (A_t_strength, .inl (cI, 9, .inl V_t_strength)), (A_t_fails, .inl (cZ, 9, .inl V_t_fails)), (A_t_driver, .inl (cI, 9, .inl V_t_driver)), (A_t_why, .inl (cI, 9, .inl V_t_why)), (A_t_isDone, .inl (cZ, 9, .inl V_t_isDone)), (A_t_place, .inl (cI, 9, .inl V_t_place))]) S hK hP hD hS hA (c_X5_putAside l D cI cZ cB cJ A_t A_t_s A_t_aside A_t_snapshot A_t_saved A_t_text A_t_counts A_t_isCut A_t_strength A_t_fails A_t_why A_t_driver A_t_place A_t_isDone _ V_t_thrown V_t_isKept V_t_savedMany V_t_length V_t_position V_t_isWrong V_t_digested V_t_s V_t_aside f1 hq) [0, 1, 2] [3, 4, 5, 6, 7, 8, 9, 10] rfl rfl (by decide +kernel) (by decide +kernel) (by decide +kernel) (cwV 0 hts gX5_reach_X5_putAside rfl rfl rfl hd_X5_putAside ⟨Nat.le_of_ble_eq_true rfl, Nat.le_of_ble_eq_true rfl⟩) rfl rfl rfl hl.1 rfl (Nat.le_of_ble_eq_true rfl) dX5_reach_3 ⟨Nat.zero_le _, Nat.zero_le _⟩ (fun H locs hP hD hS => ?_)
  replace hP : va_P D vwCl [(A_t_isCut, .inl (cZ, 9, .inl V_t_isCut)), (A_t_counts, .inl (cZ, 9, .inl V_t_counts)), (A_t_strength, .inl (cI, 9, .inl V_t_strength)), (A_t_fails, .inl (cZ, 9, .inl V_t_fails)), (A_t_driver, .inl (cI, 9, .inl V_t_driver)), (A_t_why, .inl (cI, 9, .inl V_t_why)), (A_t_isDone, .inl (cZ, 9, .inl V_t_isDone)), (A_t_place, .inl (cI, 9, .inl V_t_place)), (A_t, .inr (5, [.int V_t_thrown, .ref A_t_s, .ref A_t_aside, .ref A_t_snapshot, .int V_t_isKept, .ref A_t_saved, .int V_t_savedMany, .ref A_t_text, .int V_t_length, .ref A_t_counts, .ref A_t_isCut, .ref A_t_strength, .ref A_t_fails, .ref A_t_why, .ref A_t_driver, .ref A_t_place, .ref A_t_isDone, .int V_t_position, .int V_t_isWrong, .long V_t_digested])), (A_t_s, .inl (cI, 77, .inl V_t_s)), (A_t_aside, .inl (cI, 77, .inl f1))] H := hP
  replace hD : va_D A [(A_t_isCut, .inl (cZ, 9, .inl V_t_isCut)), (A_t_counts, .inl (cZ, 9, .inl V_t_counts)), (A_t_strength, .inl (cI, 9, .inl V_t_strength)), (A_t_fails, .inl (cZ, 9, .inl V_t_fails)), (A_t_driver, .inl (cI, 9, .inl V_t_driver)), (A_t_why, .inl (cI, 9, .inl V_t_why)), (A_t_isDone, .inl (cZ, 9, .inl V_t_isDone)), (A_t_place, .inl (cI, 9, .inl V_t_place)), (A_t, .inr (5, [.int V_t_thrown, .ref A_t_s, .ref A_t_aside, .ref A_t_snapshot, .int V_t_isKept, .ref A_t_saved, .int V_t_savedMany, .ref A_t_text, .int V_t_length, .ref A_t_counts, .ref A_t_isCut, .ref A_t_strength, .ref A_t_fails, .ref A_t_why, .ref A_t_driver, .ref A_t_place, .ref A_t_isDone, .int V_t_position, .int V_t_isWrong, .long V_t_digested])), (A_t_s, .inl (cI, 77, .inl V_t_s)), (A_t_aside, .inl (cI, 77, .inl f1))] := hD
  refine lv_iconst (v := 0) hx hb dX5_reach_6 (by decide) ?_
  refine lv_istore_n (lv' := [(3, .int 0), (2, .int 0), (0, .ref A_t), (1, .int x1)]) hx hb dX5_reach_7 rfl hl (by decide) rfl (fun ls hl => ?_)
  obtain ⟨v25, f26, f27, f28, f29, f30, f31, f32, f33, f34, hL, hg⟩ := b10_ex hg
  have kx : ∀ (H : Heap) (locs : List Loc), va_P D vwCl [(A_t_isCut, .inl (cZ, 9, .inl f29)), (A_t_counts, .inl (cZ, 9, .inl f26)), (A_t_strength, .inl (cI, 9, .inl f33)), (A_t_fails, .inl (cZ, 9, .inl f28)), (A_t_driver, .inl (cI, 9, .inl f27)), (A_t_why, .inl (cI, 9, .inl f34)), (A_t_isDone, .inl (cZ, 9, .inl f30)), (A_t_place, .inl (cI, 9, .inl f31)), (A_t, .inr (5, [.int V_t_thrown, .ref A_t_s, .ref A_t_aside, .ref A_t_snapshot, .int V_t_isKept, .ref A_t_saved, .int V_t_savedMany, .ref A_t_text, .int V_t_length, .ref A_t_counts, .ref A_t_isCut, .ref A_t_strength, .ref A_t_fails, .ref A_t_why, .ref A_t_driver, .ref A_t_place, .ref A_t_isDone, .int V_t_position, .int V_t_isWrong, .long V_t_digested])), (A_t_s, .inl (cI, 77, .inl f32)), (A_t_aside, .inl (cI, 77, .inl f1))] H → va_D A [(A_t_isCut, .inl (cZ, 9, .inl f29)), (A_t_counts, .inl (cZ, 9, .inl f26)), (A_t_strength, .inl (cI, 9, .inl f33)), (A_t_fails, .inl (cZ, 9, .inl f28)), (A_t_driver, .inl (cI, 9, .inl f27)), (A_t_why, .inl (cI, 9, .inl f34)), (A_t_isDone, .inl (cZ, 9, .inl f30)), (A_t_place, .inl (cI, 9, .inl f31)), (A_t, .inr (5, [.int V_t_thrown, .ref A_t_s, .ref A_t_aside, .ref A_t_snapshot, .int V_t_isKept, .ref A_t_saved, .int V_t_savedMany, .ref A_t_text, .int V_t_length, .ref A_t_counts, .ref A_t_isCut, .ref A_t_strength, .ref A_t_fails, .ref A_t_why, .ref A_t_driver, .ref A_t_place, .ref A_t_isDone, .int V_t_position, .int V_t_isWrong, .long V_t_digested])), (A_t_s, .inl (cI, 77, .inl f32)), (A_t_aside, .inl (cI, 77, .inl f1))] → va_S A s.heap H locs → ∀ ls : Array Slot, lv_has ls 4 [(2, .int v25), (0, .ref A_t)] → W p l e rX5_reach s m args below meth c H locs 0 0 Q (F0 m 64 ls []) := by
    intro H locs hP hD hS ls hl
    refine lv_aload_n hx hb dX5_reach_64 rfl (lv_at hl 1 rfl) ?_
    obtain ⟨f35, hq, hg⟩ := bind_ex hg
    refine callWVv (As := []) (rest := []) (wr := [(A_t_isCut, .inl (cZ, 9, .inl f29)), (A_t_counts, .inl (cZ, 9, .inl f26)), (A_t_strength, .inl (cI, 9, .inl f33)), (A_t_fails, .inl (cZ, 9, .inl f28)), (A_t_driver, .inl (cI, 9, .inl f27)), (A_t_why, .inl (cI, 9, .inl f34)), (A_t_isDone, .inl (cZ, 9, .inl f30)), (A_t_place, .inl (cI, 9, .inl f31))]) S hK hP hD hS hA (c_X5_putBack l D cI cZ cB cJ A_t A_t_s A_t_aside A_t_snapshot A_t_saved A_t_text A_t_counts A_t_isCut A_t_strength A_t_fails A_t_why A_t_driver A_t_place A_t_isDone _ V_t_thrown V_t_isKept V_t_savedMany V_t_length V_t_position V_t_isWrong V_t_digested f1 f32 f35 hq) [8, 10, 9] [0, 1, 2, 3, 4, 5, 6, 7] rfl rfl (by decide +kernel) (by decide +kernel) (by decide +kernel) (cwV 0 hts gX5_reach_X5_putBack rfl rfl rfl hd_X5_putBack ⟨Nat.le_of_ble_eq_true rfl, Nat.le_of_ble_eq_true rfl⟩) rfl rfl rfl hl.1 rfl (Nat.le_of_ble_eq_true rfl) dX5_reach_65 ⟨Nat.zero_le _, Nat.zero_le _⟩ (fun H locs hP hD hS => ?_)
    replace hP : va_P D vwCl [(A_t_isCut, .inl (cZ, 9, .inl f29)), (A_t_counts, .inl (cZ, 9, .inl f26)), (A_t_strength, .inl (cI, 9, .inl f33)), (A_t_fails, .inl (cZ, 9, .inl f28)), (A_t_driver, .inl (cI, 9, .inl f27)), (A_t_why, .inl (cI, 9, .inl f34)), (A_t_isDone, .inl (cZ, 9, .inl f30)), (A_t_place, .inl (cI, 9, .inl f31)), (A_t, .inr (5, [.int V_t_thrown, .ref A_t_s, .ref A_t_aside, .ref A_t_snapshot, .int V_t_isKept, .ref A_t_saved, .int V_t_savedMany, .ref A_t_text, .int V_t_length, .ref A_t_counts, .ref A_t_isCut, .ref A_t_strength, .ref A_t_fails, .ref A_t_why, .ref A_t_driver, .ref A_t_place, .ref A_t_isDone, .int V_t_position, .int V_t_isWrong, .long V_t_digested])), (A_t_aside, .inl (cI, 77, .inl f1)), (A_t_s, .inl (cI, 77, .inl f35))] H := hP
    replace hD : va_D A [(A_t_isCut, .inl (cZ, 9, .inl f29)), (A_t_counts, .inl (cZ, 9, .inl f26)), (A_t_strength, .inl (cI, 9, .inl f33)), (A_t_fails, .inl (cZ, 9, .inl f28)), (A_t_driver, .inl (cI, 9, .inl f27)), (A_t_why, .inl (cI, 9, .inl f34)), (A_t_isDone, .inl (cZ, 9, .inl f30)), (A_t_place, .inl (cI, 9, .inl f31)), (A_t, .inr (5, [.int V_t_thrown, .ref A_t_s, .ref A_t_aside, .ref A_t_snapshot, .int V_t_isKept, .ref A_t_saved, .int V_t_savedMany, .ref A_t_text, .int V_t_length, .ref A_t_counts, .ref A_t_isCut, .ref A_t_strength, .ref A_t_fails, .ref A_t_why, .ref A_t_driver, .ref A_t_place, .ref A_t_isDone, .int V_t_position, .int V_t_isWrong, .long V_t_digested])), (A_t_aside, .inl (cI, 77, .inl f1)), (A_t_s, .inl (cI, 77, .inl f35))] := hD
    refine lv_iload_n hx hb dX5_reach_68 rfl (lv_at hl 0 rfl) ?_
    cases hg
    exact fin _ _ _ _ dX5_reach_69 (hP.sub [8, 10, 9, 0, 1, 2, 3, 4, 5, 6, 7] rfl) (hD.sub [8, 10, 9, 0, 1, 2, 3, 4, 5, 6, 7] (by decide) rfl) hS
  have L : ∀ (nf : Nat) (v2 : Int32) (v3 : Int32) (f4 : Nat → Int32) (f5 : Nat → Int32) (f6 : Nat → Int32) (f7 : Nat → Int32) (f8 : Nat → Int32) (f9 : Nat → Int32) (f10 : Nat → Int32) (f11 : Nat → Int32) (f12 : Nat → Int32), ∀ (H : Heap) (locs : List Loc), va_P D vwCl [(A_t_isCut, .inl (cZ, 9, .inl f7)), (A_t_counts, .inl (cZ, 9, .inl f4)), (A_t_strength, .inl (cI, 9, .inl f11)), (A_t_fails, .inl (cZ, 9, .inl f6)), (A_t_driver, .inl (cI, 9, .inl f5)), (A_t_why, .inl (cI, 9, .inl f12)), (A_t_isDone, .inl (cZ, 9, .inl f8)), (A_t_place, .inl (cI, 9, .inl f9)), (A_t, .inr (5, [.int V_t_thrown, .ref A_t_s, .ref A_t_aside, .ref A_t_snapshot, .int V_t_isKept, .ref A_t_saved, .int V_t_savedMany, .ref A_t_text, .int V_t_length, .ref A_t_counts, .ref A_t_isCut, .ref A_t_strength, .ref A_t_fails, .ref A_t_why, .ref A_t_driver, .ref A_t_place, .ref A_t_isDone, .int V_t_position, .int V_t_isWrong, .long V_t_digested])), (A_t_s, .inl (cI, 77, .inl f10)), (A_t_aside, .inl (cI, 77, .inl f1))] H → va_D A [(A_t_isCut, .inl (cZ, 9, .inl f7)), (A_t_counts, .inl (cZ, 9, .inl f4)), (A_t_strength, .inl (cI, 9, .inl f11)), (A_t_fails, .inl (cZ, 9, .inl f6)), (A_t_driver, .inl (cI, 9, .inl f5)), (A_t_why, .inl (cI, 9, .inl f12)), (A_t_isDone, .inl (cZ, 9, .inl f8)), (A_t_place, .inl (cI, 9, .inl f9)), (A_t, .inr (5, [.int V_t_thrown, .ref A_t_s, .ref A_t_aside, .ref A_t_snapshot, .int V_t_isKept, .ref A_t_saved, .int V_t_savedMany, .ref A_t_text, .int V_t_length, .ref A_t_counts, .ref A_t_isCut, .ref A_t_strength, .ref A_t_fails, .ref A_t_why, .ref A_t_driver, .ref A_t_place, .ref A_t_isDone, .int V_t_position, .int V_t_isWrong, .long V_t_digested])), (A_t_s, .inl (cI, 77, .inl f10)), (A_t_aside, .inl (cI, 77, .inl f1))] → va_S A s.heap H locs → ∀ ls : Array Slot, lv_has ls 4 [(3, .int v3), (2, .int v2), (0, .ref A_t), (1, .int x1)] → g_X5_reach_L1 x1 nf v2 v3 f4 f5 f6 f7 f8 f9 f10 f11 f12 = some (v25, f26, f27, f28, f29, f30, f31, f32, f33, f34) → W p l e rX5_reach s m args below meth c H locs 0 0 Q (F0 m 8 ls []) := by
    intro nf
    induction nf with
    | zero =>
      intro v2 v3 f4 f5 f6 f7 f8 f9 f10 f11 f12 H locs hP hD hS ls hl hg
      exact no_some hg
    | succ nf ih =>
      intro v2 v3 f4 f5 f6 f7 f8 f9 f10 f11 f12 H locs hP hD hS ls hl hg
      rw [g_X5_reach_L1] at hg
      refine lv_iload_n hx hb dX5_reach_8 rfl (lv_at hl 0 rfl) ?_
      refine lv_bipush (v := 12) hx hb dX5_reach_9 (by decide) ?_
      refine lv_icmp_ge (tgt := 64) hx hb dX5_reach_11 (by decide) (fun hc => ?_) (fun hc => ?_)
      · replace hg := if_yes hg hc
        cases hg
        exact kx _ _ hP hD hS _ (lv_sub hl [1, 2] rfl)
      · replace hg := if_no hg hc
        refine lv_aload_n hx hb dX5_reach_14 rfl (lv_at hl 2 rfl) ?_
        refine lv_iload_n hx hb dX5_reach_15 rfl (lv_at hl 3 rfl) ?_
        refine lv_iconst (v := 1) hx hb dX5_reach_16 (by decide) ?_
        obtain ⟨v13, hq, hg⟩ := bind_ex hg
        refine callRVi (As := [.int x1, .int 1]) (rest := []) S hK hP (c_X5_of l D cI cZ cB cJ A_t A_t_s A_t_aside A_t_snapshot A_t_saved A_t_text A_t_counts A_t_isCut A_t_strength A_t_fails A_t_why A_t_driver A_t_place A_t_isDone V_t_thrown V_t_isKept V_t_savedMany V_t_length V_t_position V_t_isWrong V_t_digested f10 x1 1 v13 hq) [8, 9] rfl (cwV 2 hts gX5_reach_X5_of rfl rfl rfl hd_X5_of ⟨Nat.le_of_ble_eq_true rfl, Nat.le_of_ble_eq_true rfl⟩) rfl rfl rfl hl.1 rfl (Nat.le_of_ble_eq_true rfl) dX5_reach_17 ⟨Nat.zero_le _, Nat.zero_le _⟩ ?_
        refine lv_iload_n hx hb dX5_reach_20 rfl (lv_at hl 0 rfl) ?_
        obtain ⟨v14, hq, hg⟩ := bind_ex hg
        refine callRSz (As := [.int v13, .int v3]) (rest := []) S hK hP (c_X5_areNeighbours l D cI cZ cB cJ v13 v3 v14 hq) [] rfl (va_cwS 2 hts gX5_reach_X5_areNeighbours rfl rfl rfl hd_X5_areNeighbours ⟨Nat.le_of_ble_eq_true rfl, Nat.le_of_ble_eq_true rfl⟩) rfl hl.1 rfl (Nat.le_of_ble_eq_true rfl) dX5_reach_21 ⟨Nat.zero_le _, Nat.zero_le _⟩ (fun hz_v14 => ?_)
        refine lv_if_eq (tgt := 58) hx hb dX5_reach_24 (by decide) (fun hc => ?_) (fun hc => ?_)
        · replace hg := if_yes hg hc
          refine lv_iinc (v := (v3 + 1)) (lv' := [(3, .int (v3 + 1)), (2, .int v2), (0, .ref A_t), (1, .int x1)]) hx hb dX5_reach_58 hl (k := 0) rfl rfl (by decide) rfl (fun ls hl => ?_)
          refine lv_goto (tgt := 8) hx hb dX5_reach_61 (by decide) ?_
          exact ih _ _ _ _ _ _ _ _ _ _ _ _ _ hP hD hS _ (lv_sub hl [0, 1, 2, 3] rfl) hg
        · replace hg := if_no hg hc
          refine lv_aload_n hx hb dX5_reach_27 rfl (lv_at hl 2 rfl) ?_
          refine lv_iload_n hx hb dX5_reach_28 rfl (lv_at hl 3 rfl) ?_
          refine lv_iconst (v := 1) hx hb dX5_reach_29 (by decide) ?_
          refine lv_iload_n hx hb dX5_reach_30 rfl (lv_at hl 0 rfl) ?_
          refine lv_iconst (v := (-1)) hx hb dX5_reach_31 (by decide) ?_
          obtain ⟨f15, hq, hg⟩ := bind_ex hg
          refine callWVv (As := [.int x1, .int 1, .int v3, .int (-1)]) (rest := []) (wr := [(A_t_isCut, .inl (cZ, 9, .inl f7)), (A_t_counts, .inl (cZ, 9, .inl f4)), (A_t_strength, .inl (cI, 9, .inl f11)), (A_t_fails, .inl (cZ, 9, .inl f6)), (A_t_driver, .inl (cI, 9, .inl f5)), (A_t_why, .inl (cI, 9, .inl f12)), (A_t_isDone, .inl (cZ, 9, .inl f8)), (A_t_place, .inl (cI, 9, .inl f9)), (A_t_aside, .inl (cI, 77, .inl f1))]) S hK hP hD hS hA (c_X5_lays l D cI cZ cB cJ A_t A_t_s A_t_aside A_t_snapshot A_t_saved A_t_text A_t_counts A_t_isCut A_t_strength A_t_fails A_t_why A_t_driver A_t_place A_t_isDone _ V_t_thrown V_t_isKept V_t_savedMany V_t_length V_t_position V_t_isWrong V_t_digested f10 x1 1 v3 (-1) f15 hq) [8, 9] [0, 1, 2, 3, 4, 5, 6, 7, 10] rfl rfl (by decide +kernel) (by decide +kernel) (by decide +kernel) (cwV 4 hts gX5_reach_X5_lays rfl rfl rfl hd_X5_lays ⟨Nat.le_of_ble_eq_true rfl, Nat.le_of_ble_eq_true rfl⟩) rfl rfl rfl hl.1 rfl (Nat.le_of_ble_eq_true rfl) dX5_reach_32 ⟨Nat.zero_le _, Nat.zero_le _⟩ (fun H locs hP hD hS => ?_)
          replace hP : va_P D vwCl [(A_t_isCut, .inl (cZ, 9, .inl f7)), (A_t_counts, .inl (cZ, 9, .inl f4)), (A_t_strength, .inl (cI, 9, .inl f11)), (A_t_fails, .inl (cZ, 9, .inl f6)), (A_t_driver, .inl (cI, 9, .inl f5)), (A_t_why, .inl (cI, 9, .inl f12)), (A_t_isDone, .inl (cZ, 9, .inl f8)), (A_t_place, .inl (cI, 9, .inl f9)), (A_t_aside, .inl (cI, 77, .inl f1)), (A_t, .inr (5, [.int V_t_thrown, .ref A_t_s, .ref A_t_aside, .ref A_t_snapshot, .int V_t_isKept, .ref A_t_saved, .int V_t_savedMany, .ref A_t_text, .int V_t_length, .ref A_t_counts, .ref A_t_isCut, .ref A_t_strength, .ref A_t_fails, .ref A_t_why, .ref A_t_driver, .ref A_t_place, .ref A_t_isDone, .int V_t_position, .int V_t_isWrong, .long V_t_digested])), (A_t_s, .inl (cI, 77, .inl f15))] H := hP
          replace hD : va_D A [(A_t_isCut, .inl (cZ, 9, .inl f7)), (A_t_counts, .inl (cZ, 9, .inl f4)), (A_t_strength, .inl (cI, 9, .inl f11)), (A_t_fails, .inl (cZ, 9, .inl f6)), (A_t_driver, .inl (cI, 9, .inl f5)), (A_t_why, .inl (cI, 9, .inl f12)), (A_t_isDone, .inl (cZ, 9, .inl f8)), (A_t_place, .inl (cI, 9, .inl f9)), (A_t_aside, .inl (cI, 77, .inl f1)), (A_t, .inr (5, [.int V_t_thrown, .ref A_t_s, .ref A_t_aside, .ref A_t_snapshot, .int V_t_isKept, .ref A_t_saved, .int V_t_savedMany, .ref A_t_text, .int V_t_length, .ref A_t_counts, .ref A_t_isCut, .ref A_t_strength, .ref A_t_fails, .ref A_t_why, .ref A_t_driver, .ref A_t_place, .ref A_t_isDone, .int V_t_position, .int V_t_isWrong, .long V_t_digested])), (A_t_s, .inl (cI, 77, .inl f15))] := hD
          refine lv_aload_n hx hb dX5_reach_35 rfl (lv_at hl 2 rfl) ?_
          obtain ⟨f16, f17, f18, f19, f20, f21, f22, f23, hq, hg⟩ := b8_ex hg
          refine callWVv (As := []) (rest := []) (wr := [(A_t_aside, .inl (cI, 77, .inl f1))]) S hK hP hD hS hA (c_X5_layOpening l D cI cZ cB cJ A_t A_t_s A_t_aside A_t_snapshot A_t_saved A_t_text A_t_counts A_t_isCut A_t_strength A_t_fails A_t_why A_t_driver A_t_place A_t_isDone _ V_t_thrown V_t_isKept V_t_savedMany V_t_length V_t_position V_t_isWrong V_t_digested f15 f7 f4 f11 f6 f5 f12 f8 f9 f16 f17 f18 f19 f20 f21 f22 f23 hq) [9, 10, 0, 1, 2, 3, 4, 5, 6, 7] [8] rfl rfl (by decide +kernel) (by decide +kernel) (by decide +kernel) (cwV 0 hts gX5_reach_X5_layOpening rfl rfl rfl hd_X5_layOpening ⟨Nat.le_of_ble_eq_true rfl, Nat.le_of_ble_eq_true rfl⟩) rfl rfl rfl hl.1 rfl (Nat.le_of_ble_eq_true rfl) dX5_reach_36 ⟨Nat.zero_le _, Nat.zero_le _⟩ (fun H locs hP hD hS => ?_)
          replace hP : va_P D vwCl [(A_t_aside, .inl (cI, 77, .inl f1)), (A_t, .inr (5, [.int V_t_thrown, .ref A_t_s, .ref A_t_aside, .ref A_t_snapshot, .int V_t_isKept, .ref A_t_saved, .int V_t_savedMany, .ref A_t_text, .int V_t_length, .ref A_t_counts, .ref A_t_isCut, .ref A_t_strength, .ref A_t_fails, .ref A_t_why, .ref A_t_driver, .ref A_t_place, .ref A_t_isDone, .int V_t_position, .int V_t_isWrong, .long V_t_digested])), (A_t_s, .inl (cI, 77, .inl f15)), (A_t_isCut, .inl (cZ, 9, .inl f16)), (A_t_counts, .inl (cZ, 9, .inl f17)), (A_t_strength, .inl (cI, 9, .inl f18)), (A_t_fails, .inl (cZ, 9, .inl f19)), (A_t_driver, .inl (cI, 9, .inl f20)), (A_t_why, .inl (cI, 9, .inl f21)), (A_t_isDone, .inl (cZ, 9, .inl f22)), (A_t_place, .inl (cI, 9, .inl f23))] H := hP
          replace hD : va_D A [(A_t_aside, .inl (cI, 77, .inl f1)), (A_t, .inr (5, [.int V_t_thrown, .ref A_t_s, .ref A_t_aside, .ref A_t_snapshot, .int V_t_isKept, .ref A_t_saved, .int V_t_savedMany, .ref A_t_text, .int V_t_length, .ref A_t_counts, .ref A_t_isCut, .ref A_t_strength, .ref A_t_fails, .ref A_t_why, .ref A_t_driver, .ref A_t_place, .ref A_t_isDone, .int V_t_position, .int V_t_isWrong, .long V_t_digested])), (A_t_s, .inl (cI, 77, .inl f15)), (A_t_isCut, .inl (cZ, 9, .inl f16)), (A_t_counts, .inl (cZ, 9, .inl f17)), (A_t_strength, .inl (cI, 9, .inl f18)), (A_t_fails, .inl (cZ, 9, .inl f19)), (A_t_driver, .inl (cI, 9, .inl f20)), (A_t_why, .inl (cI, 9, .inl f21)), (A_t_isDone, .inl (cZ, 9, .inl f22)), (A_t_place, .inl (cI, 9, .inl f23))] := hD
          refine lv_iload_n hx hb dX5_reach_39 rfl (lv_at hl 1 rfl) ?_
          refine lv_aload_n hx hb dX5_reach_40 rfl (lv_at hl 2 rfl) ?_
          refine xget (ci := 5) (C := RX5) (T := TX5) (N := 20) (v := .ref A_t_fails) hx hb hts in_X5_reach_X5 hown hK hP 1 rfl rfl 12 (by decide) wd_X5_reach_1 rfl dX5_reach_41 ?_
          refine lv_iload_n hx hb dX5_reach_44 rfl (lv_at hl 3 rfl) ?_
          obtain ⟨v24, hin, hv, hg⟩ := rdA_ex hg
          refine xzald hx hb hK hP 6 rfl hin hv dX5_reach_45 ?_
          refine lv_if_eq (tgt := 53) hx hb dX5_reach_46 (by decide) (fun hc => ?_) (fun hc => ?_)
          · replace hg := if_yes hg hc
            refine lv_iconst (v := 1) hx hb dX5_reach_53 (by decide) ?_
            refine lv_iload_n hx hb dX5_reach_54 rfl (lv_at hl 0 rfl) ?_
            refine lv_ishl hx hb dX5_reach_55 ?_
            refine lv_ior hx hb dX5_reach_56 ?_
            refine lv_istore_n (lv' := [(2, .int (v2 ||| (1 <<< (v3 &&& 31)))), (3, .int v3), (0, .ref A_t), (1, .int x1)]) hx hb dX5_reach_57 rfl hl (by decide) rfl (fun ls hl => ?_)
            refine lv_iinc (v := (v3 + 1)) (lv' := [(3, .int (v3 + 1)), (2, .int (v2 ||| (1 <<< (v3 &&& 31)))), (0, .ref A_t), (1, .int x1)]) hx hb dX5_reach_58 hl (k := 1) rfl rfl (by decide) rfl (fun ls hl => ?_)
            refine lv_goto (tgt := 8) hx hb dX5_reach_61 (by decide) ?_
            exact ih _ _ _ _ _ _ _ _ _ _ _ _ _ (hP.sub [3, 4, 5, 6, 7, 8, 9, 10, 1, 2, 0] rfl) (hD.sub [3, 4, 5, 6, 7, 8, 9, 10, 1, 2, 0] (by decide) rfl) hS _ (lv_sub hl [0, 1, 2, 3] rfl) hg
          · replace hg := if_no hg hc
            refine lv_iconst (v := 0) hx hb dX5_reach_49 (by decide) ?_
            refine lv_goto (tgt := 56) hx hb dX5_reach_50 (by decide) ?_
            refine lv_ior hx hb dX5_reach_56 ?_
            refine lv_istore_n (lv' := [(2, .int (v2 ||| 0)), (3, .int v3), (0, .ref A_t), (1, .int x1)]) hx hb dX5_reach_57 rfl hl (by decide) rfl (fun ls hl => ?_)
            refine lv_iinc (v := (v3 + 1)) (lv' := [(3, .int (v3 + 1)), (2, .int (v2 ||| 0)), (0, .ref A_t), (1, .int x1)]) hx hb dX5_reach_58 hl (k := 1) rfl rfl (by decide) rfl (fun ls hl => ?_)
            refine lv_goto (tgt := 8) hx hb dX5_reach_61 (by decide) ?_
            exact ih _ _ _ _ _ _ _ _ _ _ _ _ _ (hP.sub [3, 4, 5, 6, 7, 8, 9, 10, 1, 2, 0] rfl) (hD.sub [3, 4, 5, 6, 7, 8, 9, 10, 1, 2, 0] (by decide) rfl) hS _ (lv_sub hl [0, 1, 2, 3] rfl) hg
  exact L FU _ _ _ _ _ _ _ _ _ _ _ _ _ hP hD hS _ (lv_sub hl [0, 1, 2, 3] rfl) hL
theorem hd_X5_canReach : yX5_canReach.cls = RX5 ∧ yX5_canReach.cls ≠ "java/lang/invoke/MethodHandle" ∧ yX5_canReach.cls ≠ "java/lang/invoke/VarHandle" ∧ (parseMethodDescriptor yX5_canReach.desc).map (fun d => d.parameters.length) = some 1 := by decide +kernel
abbrev rX5_canReach : Room := { frames := 8, cells := 0, slots := 0, locals := 177 }
set_option maxHeartbeats 4000000 in
set_option maxRecDepth 100000 in
theorem c_X5_canReach (l : Launch) (D : va_G) (cI cZ cB cJ : ClassId) (A_t : Nat) (A_t_s : Nat) (A_t_aside : Nat) (A_t_snapshot : Nat) (A_t_saved : Nat) (A_t_text : Nat) (A_t_counts : Nat) (A_t_isCut : Nat) (A_t_strength : Nat) (A_t_fails : Nat) (A_t_why : Nat) (A_t_driver : Nat) (A_t_place : Nat) (A_t_isDone : Nat) (sz : Nat) (V_t_thrown : Int32) (V_t_isKept : Int32) (V_t_savedMany : Int32) (V_t_length : Int32) (V_t_position : Int32) (V_t_isWrong : Int32) (V_t_digested : Int64) (V_t_s : Nat → Int32) (V_t_aside : Nat → Int32) (V_t_isCut : Nat → Int32) (V_t_counts : Nat → Int32) (V_t_strength : Nat → Int32) (V_t_fails : Nat → Int32) (V_t_driver : Nat → Int32) (V_t_why : Nat → Int32) (V_t_isDone : Nat → Int32) (V_t_place : Nat → Int32) (x1 : Int32) (r0 : Int32) (w1 : Int32) (w2 : Nat → Int32) (w3 : Nat → Int32) (w4 : Nat → Int32) (w5 : Nat → Int32) (w6 : Nat → Int32) (w7 : Nat → Int32) (w8 : Nat → Int32) (w9 : Nat → Int32) (w10 : Nat → Int32) (w11 : Nat → Int32) (hg : g_X5_canReach V_t_thrown V_t_s V_t_aside V_t_isCut V_t_counts V_t_strength V_t_fails V_t_driver V_t_why V_t_isDone V_t_place x1 = some (r0, w1, w2, w3, w4, w5, w6, w7, w8, w9, w10, w11)) : Met l yX5_canReach wsX5_canReach rX5_canReach (PcW D cI cZ cB cJ sz [(A_t, .inr (5, [.int V_t_thrown, .ref A_t_s, .ref A_t_aside, .ref A_t_snapshot, .int V_t_isKept, .ref A_t_saved, .int V_t_savedMany, .ref A_t_text, .int V_t_length, .ref A_t_counts, .ref A_t_isCut, .ref A_t_strength, .ref A_t_fails, .ref A_t_why, .ref A_t_driver, .ref A_t_place, .ref A_t_isDone, .int V_t_position, .int V_t_isWrong, .long V_t_digested])), (A_t_s, .inl (cI, 77, .inl V_t_s)), (A_t_aside, .inl (cI, 77, .inl V_t_aside)), (A_t_isCut, .inl (cZ, 9, .inl V_t_isCut)), (A_t_counts, .inl (cZ, 9, .inl V_t_counts)), (A_t_strength, .inl (cI, 9, .inl V_t_strength)), (A_t_fails, .inl (cZ, 9, .inl V_t_fails)), (A_t_driver, .inl (cI, 9, .inl V_t_driver)), (A_t_why, .inl (cI, 9, .inl V_t_why)), (A_t_isDone, .inl (cZ, 9, .inl V_t_isDone)), (A_t_place, .inl (cI, 9, .inl V_t_place))] [.ref A_t, .int x1]) (QWi D cI cZ cB cJ sz [(A_t, .inr (5, [.int V_t_thrown, .ref A_t_s, .ref A_t_aside, .ref A_t_snapshot, .int V_t_isKept, .ref A_t_saved, .int V_t_savedMany, .ref A_t_text, .int V_t_length, .ref A_t_counts, .ref A_t_isCut, .ref A_t_strength, .ref A_t_fails, .ref A_t_why, .ref A_t_driver, .ref A_t_place, .ref A_t_isDone, .int V_t_position, .int V_t_isWrong, .long V_t_digested])), (A_t_s, .inl (cI, 77, .inl V_t_s)), (A_t_aside, .inl (cI, 77, .inl V_t_aside)), (A_t_isCut, .inl (cZ, 9, .inl V_t_isCut)), (A_t_counts, .inl (cZ, 9, .inl V_t_counts)), (A_t_strength, .inl (cI, 9, .inl V_t_strength)), (A_t_fails, .inl (cZ, 9, .inl V_t_fails)), (A_t_driver, .inl (cI, 9, .inl V_t_driver)), (A_t_why, .inl (cI, 9, .inl V_t_why)), (A_t_isDone, .inl (cZ, 9, .inl V_t_isDone)), (A_t_place, .inl (cI, 9, .inl V_t_place))] [(A_t, .inr (5, [.int w1, .ref A_t_s, .ref A_t_aside, .ref A_t_snapshot, .int V_t_isKept, .ref A_t_saved, .int V_t_savedMany, .ref A_t_text, .int V_t_length, .ref A_t_counts, .ref A_t_isCut, .ref A_t_strength, .ref A_t_fails, .ref A_t_why, .ref A_t_driver, .ref A_t_place, .ref A_t_isDone, .int V_t_position, .int V_t_isWrong, .long V_t_digested])), (A_t_s, .inl (cI, 77, .inl w2)), (A_t_aside, .inl (cI, 77, .inl w3)), (A_t_isCut, .inl (cZ, 9, .inl w4)), (A_t_counts, .inl (cZ, 9, .inl w5)), (A_t_strength, .inl (cI, 9, .inl w6)), (A_t_fails, .inl (cZ, 9, .inl w7)), (A_t_driver, .inl (cI, 9, .inl w8)), (A_t_why, .inl (cI, 9, .inl w9)), (A_t_isDone, .inl (cZ, 9, .inl w10)), (A_t_place, .inl (cI, 9, .inl w11))] r0) 0 0 (va_A [(A_t, .inr (5, [.int V_t_thrown, .ref A_t_s, .ref A_t_aside, .ref A_t_snapshot, .int V_t_isKept, .ref A_t_saved, .int V_t_savedMany, .ref A_t_text, .int V_t_length, .ref A_t_counts, .ref A_t_isCut, .ref A_t_strength, .ref A_t_fails, .ref A_t_why, .ref A_t_driver, .ref A_t_place, .ref A_t_isDone, .int V_t_position, .int V_t_isWrong, .long V_t_digested])), (A_t_s, .inl (cI, 77, .inl V_t_s)), (A_t_aside, .inl (cI, 77, .inl V_t_aside)), (A_t_isCut, .inl (cZ, 9, .inl V_t_isCut)), (A_t_counts, .inl (cZ, 9, .inl V_t_counts)), (A_t_strength, .inl (cI, 9, .inl V_t_strength)), (A_t_fails, .inl (cZ, 9, .inl V_t_fails)), (A_t_driver, .inl (cI, 9, .inl V_t_driver)), (A_t_why, .inl (cI, 9, .inl V_t_why)), (A_t_isDone, .inl (cZ, 9, .inl V_t_isDone)), (A_t_place, .inl (cI, 9, .inl V_t_place))] sz) := by
  refine bodyWi (cc := cX5_canReach) (maxL := 2) (lv := [(0, .ref A_t), (1, .int x1)]) (by decide) rfl (Nat.le_of_ble_eq_true rfl) rfl ?_
  intro p e s m args below meth c Q hx hb hml hown hts A hP hK hD hA hS fin ls hl
  replace hown : s.vm.findClass RX5 = some m.cls := hown
  have S : CallFix p m c cX5_canReach 2 s args wsX5_canReach RX5 := ⟨hx, hb, hml, hown, hts⟩
  unfold g_X5_canReach at hg
  refine lv_aload_n hx hb dX5_canReach_0 rfl (lv_at hl 0 rfl) ?_
  refine lv_aload_n hx hb dX5_canReach_1 rfl (lv_at hl 0 rfl) ?_
  refine lv_iload_n hx hb dX5_canReach_2 rfl (lv_at hl 1 rfl) ?_
  obtain ⟨v1, hq, hg⟩ := bind_ex hg
  refine callRVz (As := [.int x1]) (rest := [.ref A_t]) S hK hP (c_X5_isArmy l D cI cZ cB cJ A_t A_t_s A_t_aside A_t_snapshot A_t_saved A_t_text A_t_counts A_t_isCut A_t_strength A_t_fails A_t_why A_t_driver A_t_place A_t_isDone V_t_thrown V_t_isKept V_t_savedMany V_t_length V_t_position V_t_isWrong V_t_digested V_t_s x1 v1 hq) [0, 1] rfl (cwV 1 hts gX5_canReach_X5_isArmy rfl rfl rfl hd_X5_isArmy ⟨Nat.le_of_ble_eq_true rfl, Nat.le_of_ble_eq_true rfl⟩) rfl rfl rfl hl.1 rfl (Nat.le_of_ble_eq_true rfl) dX5_canReach_3 ⟨Nat.zero_le _, Nat.zero_le _⟩ (fun hz_v1 => ?_)
  have hJ1 : ∀ (v2 : Int32), bo v2 → ∀ (H : Heap) (locs : List Loc), va_P D vwCl [(A_t, .inr (5, [.int V_t_thrown, .ref A_t_s, .ref A_t_aside, .ref A_t_snapshot, .int V_t_isKept, .ref A_t_saved, .int V_t_savedMany, .ref A_t_text, .int V_t_length, .ref A_t_counts, .ref A_t_isCut, .ref A_t_strength, .ref A_t_fails, .ref A_t_why, .ref A_t_driver, .ref A_t_place, .ref A_t_isDone, .int V_t_position, .int V_t_isWrong, .long V_t_digested])), (A_t_s, .inl (cI, 77, .inl V_t_s)), (A_t_aside, .inl (cI, 77, .inl V_t_aside)), (A_t_isCut, .inl (cZ, 9, .inl V_t_isCut)), (A_t_counts, .inl (cZ, 9, .inl V_t_counts)), (A_t_strength, .inl (cI, 9, .inl V_t_strength)), (A_t_fails, .inl (cZ, 9, .inl V_t_fails)), (A_t_driver, .inl (cI, 9, .inl V_t_driver)), (A_t_why, .inl (cI, 9, .inl V_t_why)), (A_t_isDone, .inl (cZ, 9, .inl V_t_isDone)), (A_t_place, .inl (cI, 9, .inl V_t_place))] H → va_D A [(A_t, .inr (5, [.int V_t_thrown, .ref A_t_s, .ref A_t_aside, .ref A_t_snapshot, .int V_t_isKept, .ref A_t_saved, .int V_t_savedMany, .ref A_t_text, .int V_t_length, .ref A_t_counts, .ref A_t_isCut, .ref A_t_strength, .ref A_t_fails, .ref A_t_why, .ref A_t_driver, .ref A_t_place, .ref A_t_isDone, .int V_t_position, .int V_t_isWrong, .long V_t_digested])), (A_t_s, .inl (cI, 77, .inl V_t_s)), (A_t_aside, .inl (cI, 77, .inl V_t_aside)), (A_t_isCut, .inl (cZ, 9, .inl V_t_isCut)), (A_t_counts, .inl (cZ, 9, .inl V_t_counts)), (A_t_strength, .inl (cI, 9, .inl V_t_strength)), (A_t_fails, .inl (cZ, 9, .inl V_t_fails)), (A_t_driver, .inl (cI, 9, .inl V_t_driver)), (A_t_why, .inl (cI, 9, .inl V_t_why)), (A_t_isDone, .inl (cZ, 9, .inl V_t_isDone)), (A_t_place, .inl (cI, 9, .inl V_t_place))] → va_S A s.heap H locs → ∀ ls : Array Slot, lv_has ls 2 [(0, .ref A_t), (1, .int x1)] → g_X5_canReach_J1 V_t_thrown V_t_s V_t_aside V_t_isCut V_t_counts V_t_strength V_t_fails V_t_driver V_t_why V_t_isDone V_t_place x1 v2 = some (r0, w1, w2, w3, w4, w5, w6, w7, w8, w9, w10, w11) → W p l e rX5_canReach s m args below meth c H locs 0 0 Q (F0 m 14 ls [.int v2, .ref A_t]) := by
    intro v2 hz_v2 H locs hP hD hS ls hl hg
    unfold g_X5_canReach_J1 at hg
    obtain ⟨v4, v3, hq, hg⟩ := b2_ex hg
    refine callWVz (As := [.int v2]) (rest := []) (wr := [(A_t_s, .inl (cI, 77, .inl V_t_s)), (A_t_aside, .inl (cI, 77, .inl V_t_aside)), (A_t_isCut, .inl (cZ, 9, .inl V_t_isCut)), (A_t_counts, .inl (cZ, 9, .inl V_t_counts)), (A_t_strength, .inl (cI, 9, .inl V_t_strength)), (A_t_fails, .inl (cZ, 9, .inl V_t_fails)), (A_t_driver, .inl (cI, 9, .inl V_t_driver)), (A_t_why, .inl (cI, 9, .inl V_t_why)), (A_t_isDone, .inl (cZ, 9, .inl V_t_isDone)), (A_t_place, .inl (cI, 9, .inl V_t_place))]) S hK hP hD hS hA (c_X5_holds l D cI cZ cB cJ A_t A_t_s A_t_aside A_t_snapshot A_t_saved A_t_text A_t_counts A_t_isCut A_t_strength A_t_fails A_t_why A_t_driver A_t_place A_t_isDone _ V_t_thrown V_t_isKept V_t_savedMany V_t_length V_t_position V_t_isWrong V_t_digested v2 v4 v3 hq) [0] [1, 2, 3, 4, 5, 6, 7, 8, 9, 10] rfl rfl (by decide +kernel) (by decide +kernel) (by decide +kernel) (cwV 1 hts gX5_canReach_X5_holds rfl rfl rfl hd_X5_holds ⟨Nat.le_of_ble_eq_true rfl, Nat.le_of_ble_eq_true rfl⟩) rfl rfl rfl hl.1 rfl (Nat.le_of_ble_eq_true rfl) dX5_canReach_14 ⟨Nat.zero_le _, Nat.zero_le _⟩ (fun hz_v4 H locs hP hD hS => ?_)
    replace hP : va_P D vwCl [(A_t_s, .inl (cI, 77, .inl V_t_s)), (A_t_aside, .inl (cI, 77, .inl V_t_aside)), (A_t_isCut, .inl (cZ, 9, .inl V_t_isCut)), (A_t_counts, .inl (cZ, 9, .inl V_t_counts)), (A_t_strength, .inl (cI, 9, .inl V_t_strength)), (A_t_fails, .inl (cZ, 9, .inl V_t_fails)), (A_t_driver, .inl (cI, 9, .inl V_t_driver)), (A_t_why, .inl (cI, 9, .inl V_t_why)), (A_t_isDone, .inl (cZ, 9, .inl V_t_isDone)), (A_t_place, .inl (cI, 9, .inl V_t_place)), (A_t, .inr (5, [.int v3, .ref A_t_s, .ref A_t_aside, .ref A_t_snapshot, .int V_t_isKept, .ref A_t_saved, .int V_t_savedMany, .ref A_t_text, .int V_t_length, .ref A_t_counts, .ref A_t_isCut, .ref A_t_strength, .ref A_t_fails, .ref A_t_why, .ref A_t_driver, .ref A_t_place, .ref A_t_isDone, .int V_t_position, .int V_t_isWrong, .long V_t_digested]))] H := hP
    replace hD : va_D A [(A_t_s, .inl (cI, 77, .inl V_t_s)), (A_t_aside, .inl (cI, 77, .inl V_t_aside)), (A_t_isCut, .inl (cZ, 9, .inl V_t_isCut)), (A_t_counts, .inl (cZ, 9, .inl V_t_counts)), (A_t_strength, .inl (cI, 9, .inl V_t_strength)), (A_t_fails, .inl (cZ, 9, .inl V_t_fails)), (A_t_driver, .inl (cI, 9, .inl V_t_driver)), (A_t_why, .inl (cI, 9, .inl V_t_why)), (A_t_isDone, .inl (cZ, 9, .inl V_t_isDone)), (A_t_place, .inl (cI, 9, .inl V_t_place)), (A_t, .inr (5, [.int v3, .ref A_t_s, .ref A_t_aside, .ref A_t_snapshot, .int V_t_isKept, .ref A_t_saved, .int V_t_savedMany, .ref A_t_text, .int V_t_length, .ref A_t_counts, .ref A_t_isCut, .ref A_t_strength, .ref A_t_fails, .ref A_t_why, .ref A_t_driver, .ref A_t_place, .ref A_t_isDone, .int V_t_position, .int V_t_isWrong, .long V_t_digested]))] := hD
    refine lv_if_eq (tgt := 28) hx hb dX5_canReach_17 (by decide) (fun hc => ?_) (fun hc => ?_)
    · replace hg := if_yes hg hc
      refine lv_iconst (v := 0) hx hb dX5_canReach_28 (by decide) ?_
      cases hg
      exact fin _ _ _ _ dX5_canReach_29 (hP.sub [10, 0, 1, 2, 3, 4, 5, 6, 7, 8, 9] rfl) (hD.sub [10, 0, 1, 2, 3, 4, 5, 6, 7, 8, 9] (by decide) rfl) hS
    · replace hg := if_no hg hc
      refine lv_aload_n hx hb dX5_canReach_20 rfl (lv_at hl 0 rfl) ?_
      refine lv_iload_n hx hb dX5_canReach_21 rfl (lv_at hl 1 rfl) ?_
      obtain ⟨v15, f5, f6, f7, f8, f9, f10, f11, f12, f13, f14, hq, hg⟩ := b11_ex hg
      refine callWV (As := [.int x1]) (rest := []) (wr := []) S hK hP hD hS hA (c_X5_reach l D cI cZ cB cJ A_t A_t_s A_t_aside A_t_snapshot A_t_saved A_t_text A_t_counts A_t_isCut A_t_strength A_t_fails A_t_why A_t_driver A_t_place A_t_isDone _ v3 V_t_isKept V_t_savedMany V_t_length V_t_position V_t_isWrong V_t_digested V_t_s V_t_aside V_t_isCut V_t_counts V_t_strength V_t_fails V_t_driver V_t_why V_t_isDone V_t_place x1 v15 f5 f6 f7 f8 f9 f10 f11 f12 f13 f14 hq) [10, 0, 1, 2, 3, 4, 5, 6, 7, 8, 9] [] rfl rfl (by decide +kernel) (by decide +kernel) (by decide +kernel) (cwV 1 hts gX5_canReach_X5_reach rfl rfl rfl hd_X5_reach ⟨Nat.le_of_ble_eq_true rfl, Nat.le_of_ble_eq_true rfl⟩) rfl rfl rfl hl.1 rfl (Nat.le_of_ble_eq_true rfl) dX5_canReach_22 ⟨Nat.zero_le _, Nat.zero_le _⟩ (fun H locs hP hD hS => ?_)
      replace hP : va_P D vwCl [(A_t, .inr (5, [.int v3, .ref A_t_s, .ref A_t_aside, .ref A_t_snapshot, .int V_t_isKept, .ref A_t_saved, .int V_t_savedMany, .ref A_t_text, .int V_t_length, .ref A_t_counts, .ref A_t_isCut, .ref A_t_strength, .ref A_t_fails, .ref A_t_why, .ref A_t_driver, .ref A_t_place, .ref A_t_isDone, .int V_t_position, .int V_t_isWrong, .long V_t_digested])), (A_t_s, .inl (cI, 77, .inl f5)), (A_t_aside, .inl (cI, 77, .inl f6)), (A_t_isCut, .inl (cZ, 9, .inl f7)), (A_t_counts, .inl (cZ, 9, .inl f8)), (A_t_strength, .inl (cI, 9, .inl f9)), (A_t_fails, .inl (cZ, 9, .inl f10)), (A_t_driver, .inl (cI, 9, .inl f11)), (A_t_why, .inl (cI, 9, .inl f12)), (A_t_isDone, .inl (cZ, 9, .inl f13)), (A_t_place, .inl (cI, 9, .inl f14))] H := hP
      replace hD : va_D A [(A_t, .inr (5, [.int v3, .ref A_t_s, .ref A_t_aside, .ref A_t_snapshot, .int V_t_isKept, .ref A_t_saved, .int V_t_savedMany, .ref A_t_text, .int V_t_length, .ref A_t_counts, .ref A_t_isCut, .ref A_t_strength, .ref A_t_fails, .ref A_t_why, .ref A_t_driver, .ref A_t_place, .ref A_t_isDone, .int V_t_position, .int V_t_isWrong, .long V_t_digested])), (A_t_s, .inl (cI, 77, .inl f5)), (A_t_aside, .inl (cI, 77, .inl f6)), (A_t_isCut, .inl (cZ, 9, .inl f7)), (A_t_counts, .inl (cZ, 9, .inl f8)), (A_t_strength, .inl (cI, 9, .inl f9)), (A_t_fails, .inl (cZ, 9, .inl f10)), (A_t_driver, .inl (cI, 9, .inl f11)), (A_t_why, .inl (cI, 9, .inl f12)), (A_t_isDone, .inl (cZ, 9, .inl f13)), (A_t_place, .inl (cI, 9, .inl f14))] := hD
      refine lv_goto (tgt := 29) hx hb dX5_canReach_25 (by decide) ?_
      cases hg
      exact fin _ _ _ _ dX5_canReach_29 hP hD hS
  refine lv_if_eq (tgt := 13) hx hb dX5_canReach_6 (by decide) (fun hc => ?_) (fun hc => ?_)
  · replace hg := if_yes hg hc
    refine lv_iconst (v := 1) hx hb dX5_canReach_13 (by decide) ?_
    exact hJ1 _ bo_1 _ _ hP hD hS _ (lv_sub hl [0, 1] rfl) hg
  · replace hg := if_no hg hc
    refine lv_iconst (v := 0) hx hb dX5_canReach_9 (by decide) ?_
    refine lv_goto (tgt := 14) hx hb dX5_canReach_10 (by decide) ?_
    exact hJ1 _ bo_0 _ _ hP hD hS _ (lv_sub hl [0, 1] rfl) hg
theorem hd_X5_inDanger : yX5_inDanger.cls = RX5 ∧ yX5_inDanger.cls ≠ "java/lang/invoke/MethodHandle" ∧ yX5_inDanger.cls ≠ "java/lang/invoke/VarHandle" ∧ (parseMethodDescriptor yX5_inDanger.desc).map (fun d => d.parameters.length) = some 0 := by decide +kernel
theorem in_X5_inDanger_X5 : ∀ w ∈ u_ws RX5 TX5 20, w ∈ wsX5_inDanger := fun _ h => List.mem_cons_of_mem _ (List.mem_append_right _ h)
theorem wd_X5_inDanger_1 : Cond.fieldLink RX5 7 "FogOrdersModel" "s" "[I" ∈ wsX5_inDanger := List.mem_of_getElem? (i := 1) rfl
theorem wd_X5_inDanger_2 : Cond.fieldLink RX5 41 "FogOrdersModel" "driver" "[I" ∈ wsX5_inDanger := List.mem_of_getElem? (i := 2) rfl
theorem wd_X5_inDanger_3 : Cond.fieldLink RX5 32 "FogOrdersModel" "strength" "[I" ∈ wsX5_inDanger := List.mem_of_getElem? (i := 3) rfl
abbrev rX5_inDanger : Room := { frames := 7, cells := 0, slots := 0, locals := 154 }
set_option maxHeartbeats 4000000 in
set_option maxRecDepth 100000 in
theorem c_X5_inDanger (l : Launch) (D : va_G) (cI cZ cB cJ : ClassId) (A_t : Nat) (A_t_s : Nat) (A_t_aside : Nat) (A_t_snapshot : Nat) (A_t_saved : Nat) (A_t_text : Nat) (A_t_counts : Nat) (A_t_isCut : Nat) (A_t_strength : Nat) (A_t_fails : Nat) (A_t_why : Nat) (A_t_driver : Nat) (A_t_place : Nat) (A_t_isDone : Nat) (sz : Nat) (V_t_thrown : Int32) (V_t_isKept : Int32) (V_t_savedMany : Int32) (V_t_length : Int32) (V_t_position : Int32) (V_t_isWrong : Int32) (V_t_digested : Int64) (V_t_s : Nat → Int32) (V_t_isCut : Nat → Int32) (V_t_counts : Nat → Int32) (V_t_strength : Nat → Int32) (V_t_fails : Nat → Int32) (V_t_driver : Nat → Int32) (V_t_why : Nat → Int32) (V_t_isDone : Nat → Int32) (V_t_place : Nat → Int32) (r0 : Int32) (w1 : Nat → Int32) (w2 : Nat → Int32) (w3 : Nat → Int32) (w4 : Nat → Int32) (w5 : Nat → Int32) (w6 : Nat → Int32) (w7 : Nat → Int32) (w8 : Nat → Int32) (hg : g_X5_inDanger V_t_s V_t_isCut V_t_counts V_t_strength V_t_fails V_t_driver V_t_why V_t_isDone V_t_place = some (r0, w1, w2, w3, w4, w5, w6, w7, w8)) : Met l yX5_inDanger wsX5_inDanger rX5_inDanger (PcW D cI cZ cB cJ sz [(A_t, .inr (5, [.int V_t_thrown, .ref A_t_s, .ref A_t_aside, .ref A_t_snapshot, .int V_t_isKept, .ref A_t_saved, .int V_t_savedMany, .ref A_t_text, .int V_t_length, .ref A_t_counts, .ref A_t_isCut, .ref A_t_strength, .ref A_t_fails, .ref A_t_why, .ref A_t_driver, .ref A_t_place, .ref A_t_isDone, .int V_t_position, .int V_t_isWrong, .long V_t_digested])), (A_t_s, .inl (cI, 77, .inl V_t_s)), (A_t_isCut, .inl (cZ, 9, .inl V_t_isCut)), (A_t_counts, .inl (cZ, 9, .inl V_t_counts)), (A_t_strength, .inl (cI, 9, .inl V_t_strength)), (A_t_fails, .inl (cZ, 9, .inl V_t_fails)), (A_t_driver, .inl (cI, 9, .inl V_t_driver)), (A_t_why, .inl (cI, 9, .inl V_t_why)), (A_t_isDone, .inl (cZ, 9, .inl V_t_isDone)), (A_t_place, .inl (cI, 9, .inl V_t_place))] [.ref A_t]) (QWi D cI cZ cB cJ sz [(A_t, .inr (5, [.int V_t_thrown, .ref A_t_s, .ref A_t_aside, .ref A_t_snapshot, .int V_t_isKept, .ref A_t_saved, .int V_t_savedMany, .ref A_t_text, .int V_t_length, .ref A_t_counts, .ref A_t_isCut, .ref A_t_strength, .ref A_t_fails, .ref A_t_why, .ref A_t_driver, .ref A_t_place, .ref A_t_isDone, .int V_t_position, .int V_t_isWrong, .long V_t_digested])), (A_t_s, .inl (cI, 77, .inl V_t_s)), (A_t_isCut, .inl (cZ, 9, .inl V_t_isCut)), (A_t_counts, .inl (cZ, 9, .inl V_t_counts)), (A_t_strength, .inl (cI, 9, .inl V_t_strength)), (A_t_fails, .inl (cZ, 9, .inl V_t_fails)), (A_t_driver, .inl (cI, 9, .inl V_t_driver)), (A_t_why, .inl (cI, 9, .inl V_t_why)), (A_t_isDone, .inl (cZ, 9, .inl V_t_isDone)), (A_t_place, .inl (cI, 9, .inl V_t_place))] [(A_t, .inr (5, [.int V_t_thrown, .ref A_t_s, .ref A_t_aside, .ref A_t_snapshot, .int V_t_isKept, .ref A_t_saved, .int V_t_savedMany, .ref A_t_text, .int V_t_length, .ref A_t_counts, .ref A_t_isCut, .ref A_t_strength, .ref A_t_fails, .ref A_t_why, .ref A_t_driver, .ref A_t_place, .ref A_t_isDone, .int V_t_position, .int V_t_isWrong, .long V_t_digested])), (A_t_s, .inl (cI, 77, .inl V_t_s)), (A_t_isCut, .inl (cZ, 9, .inl w1)), (A_t_counts, .inl (cZ, 9, .inl w2)), (A_t_strength, .inl (cI, 9, .inl w3)), (A_t_fails, .inl (cZ, 9, .inl w4)), (A_t_driver, .inl (cI, 9, .inl w5)), (A_t_why, .inl (cI, 9, .inl w6)), (A_t_isDone, .inl (cZ, 9, .inl w7)), (A_t_place, .inl (cI, 9, .inl w8))] r0) 0 0 (va_A [(A_t, .inr (5, [.int V_t_thrown, .ref A_t_s, .ref A_t_aside, .ref A_t_snapshot, .int V_t_isKept, .ref A_t_saved, .int V_t_savedMany, .ref A_t_text, .int V_t_length, .ref A_t_counts, .ref A_t_isCut, .ref A_t_strength, .ref A_t_fails, .ref A_t_why, .ref A_t_driver, .ref A_t_place, .ref A_t_isDone, .int V_t_position, .int V_t_isWrong, .long V_t_digested])), (A_t_s, .inl (cI, 77, .inl V_t_s)), (A_t_isCut, .inl (cZ, 9, .inl V_t_isCut)), (A_t_counts, .inl (cZ, 9, .inl V_t_counts)), (A_t_strength, .inl (cI, 9, .inl V_t_strength)), (A_t_fails, .inl (cZ, 9, .inl V_t_fails)), (A_t_driver, .inl (cI, 9, .inl V_t_driver)), (A_t_why, .inl (cI, 9, .inl V_t_why)), (A_t_isDone, .inl (cZ, 9, .inl V_t_isDone)), (A_t_place, .inl (cI, 9, .inl V_t_place))] sz) := by
  refine bodyWi (cc := cX5_inDanger) (maxL := 4) (lv := [(0, .ref A_t)]) (by decide) rfl (Nat.le_of_ble_eq_true rfl) rfl ?_
  intro p e s m args below meth c Q hx hb hml hown hts A hP hK hD hA hS fin ls hl
  replace hown : s.vm.findClass RX5 = some m.cls := hown
  have S : CallFix p m c cX5_inDanger 4 s args wsX5_inDanger RX5 := ⟨hx, hb, hml, hown, hts⟩
  unfold g_X5_inDanger at hg
  refine lv_aload_n hx hb dX5_inDanger_0 rfl (lv_at hl 0 rfl) ?_
  obtain ⟨f1, f2, f3, f4, f5, f6, f7, f8, hq, hg⟩ := b8_ex hg
  refine callWVv (As := []) (rest := []) (wr := []) S hK hP hD hS hA (c_X5_layOpening l D cI cZ cB cJ A_t A_t_s A_t_aside A_t_snapshot A_t_saved A_t_text A_t_counts A_t_isCut A_t_strength A_t_fails A_t_why A_t_driver A_t_place A_t_isDone _ V_t_thrown V_t_isKept V_t_savedMany V_t_length V_t_position V_t_isWrong V_t_digested V_t_s V_t_isCut V_t_counts V_t_strength V_t_fails V_t_driver V_t_why V_t_isDone V_t_place f1 f2 f3 f4 f5 f6 f7 f8 hq) [0, 1, 2, 3, 4, 5, 6, 7, 8, 9] [] rfl rfl (by decide +kernel) (by decide +kernel) (by decide +kernel) (cwV 0 hts gX5_inDanger_X5_layOpening rfl rfl rfl hd_X5_layOpening ⟨Nat.le_of_ble_eq_true rfl, Nat.le_of_ble_eq_true rfl⟩) rfl rfl rfl hl.1 rfl (Nat.le_of_ble_eq_true rfl) dX5_inDanger_1 ⟨Nat.zero_le _, Nat.zero_le _⟩ (fun H locs hP hD hS => ?_)
  replace hP : va_P D vwCl [(A_t, .inr (5, [.int V_t_thrown, .ref A_t_s, .ref A_t_aside, .ref A_t_snapshot, .int V_t_isKept, .ref A_t_saved, .int V_t_savedMany, .ref A_t_text, .int V_t_length, .ref A_t_counts, .ref A_t_isCut, .ref A_t_strength, .ref A_t_fails, .ref A_t_why, .ref A_t_driver, .ref A_t_place, .ref A_t_isDone, .int V_t_position, .int V_t_isWrong, .long V_t_digested])), (A_t_s, .inl (cI, 77, .inl V_t_s)), (A_t_isCut, .inl (cZ, 9, .inl f1)), (A_t_counts, .inl (cZ, 9, .inl f2)), (A_t_strength, .inl (cI, 9, .inl f3)), (A_t_fails, .inl (cZ, 9, .inl f4)), (A_t_driver, .inl (cI, 9, .inl f5)), (A_t_why, .inl (cI, 9, .inl f6)), (A_t_isDone, .inl (cZ, 9, .inl f7)), (A_t_place, .inl (cI, 9, .inl f8))] H := hP
  replace hD : va_D A [(A_t, .inr (5, [.int V_t_thrown, .ref A_t_s, .ref A_t_aside, .ref A_t_snapshot, .int V_t_isKept, .ref A_t_saved, .int V_t_savedMany, .ref A_t_text, .int V_t_length, .ref A_t_counts, .ref A_t_isCut, .ref A_t_strength, .ref A_t_fails, .ref A_t_why, .ref A_t_driver, .ref A_t_place, .ref A_t_isDone, .int V_t_position, .int V_t_isWrong, .long V_t_digested])), (A_t_s, .inl (cI, 77, .inl V_t_s)), (A_t_isCut, .inl (cZ, 9, .inl f1)), (A_t_counts, .inl (cZ, 9, .inl f2)), (A_t_strength, .inl (cI, 9, .inl f3)), (A_t_fails, .inl (cZ, 9, .inl f4)), (A_t_driver, .inl (cI, 9, .inl f5)), (A_t_why, .inl (cI, 9, .inl f6)), (A_t_isDone, .inl (cZ, 9, .inl f7)), (A_t_place, .inl (cI, 9, .inl f8))] := hD
  refine lv_iconst (v := (-1)) hx hb dX5_inDanger_4 (by decide) ?_
  refine lv_istore_n (lv' := [(1, .int (-1)), (0, .ref A_t)]) hx hb dX5_inDanger_5 rfl hl (by decide) rfl (fun ls hl => ?_)
  refine lv_iconst (v := 0) hx hb dX5_inDanger_6 (by decide) ?_
  refine lv_istore_n (lv' := [(2, .int 0), (1, .int (-1)), (0, .ref A_t)]) hx hb dX5_inDanger_7 rfl hl (by decide) rfl (fun ls hl => ?_)
  obtain ⟨v18, hL, hg⟩ := bind_ex hg
  have kx : ∀ (H : Heap) (locs : List Loc), va_P D vwCl [(A_t, .inr (5, [.int V_t_thrown, .ref A_t_s, .ref A_t_aside, .ref A_t_snapshot, .int V_t_isKept, .ref A_t_saved, .int V_t_savedMany, .ref A_t_text, .int V_t_length, .ref A_t_counts, .ref A_t_isCut, .ref A_t_strength, .ref A_t_fails, .ref A_t_why, .ref A_t_driver, .ref A_t_place, .ref A_t_isDone, .int V_t_position, .int V_t_isWrong, .long V_t_digested])), (A_t_s, .inl (cI, 77, .inl V_t_s)), (A_t_isCut, .inl (cZ, 9, .inl f1)), (A_t_counts, .inl (cZ, 9, .inl f2)), (A_t_strength, .inl (cI, 9, .inl f3)), (A_t_fails, .inl (cZ, 9, .inl f4)), (A_t_driver, .inl (cI, 9, .inl f5)), (A_t_why, .inl (cI, 9, .inl f6)), (A_t_isDone, .inl (cZ, 9, .inl f7)), (A_t_place, .inl (cI, 9, .inl f8))] H → va_D A [(A_t, .inr (5, [.int V_t_thrown, .ref A_t_s, .ref A_t_aside, .ref A_t_snapshot, .int V_t_isKept, .ref A_t_saved, .int V_t_savedMany, .ref A_t_text, .int V_t_length, .ref A_t_counts, .ref A_t_isCut, .ref A_t_strength, .ref A_t_fails, .ref A_t_why, .ref A_t_driver, .ref A_t_place, .ref A_t_isDone, .int V_t_position, .int V_t_isWrong, .long V_t_digested])), (A_t_s, .inl (cI, 77, .inl V_t_s)), (A_t_isCut, .inl (cZ, 9, .inl f1)), (A_t_counts, .inl (cZ, 9, .inl f2)), (A_t_strength, .inl (cI, 9, .inl f3)), (A_t_fails, .inl (cZ, 9, .inl f4)), (A_t_driver, .inl (cI, 9, .inl f5)), (A_t_why, .inl (cI, 9, .inl f6)), (A_t_isDone, .inl (cZ, 9, .inl f7)), (A_t_place, .inl (cI, 9, .inl f8))] → va_S A s.heap H locs → ∀ ls : Array Slot, lv_has ls 4 [(1, .int v18)] → W p l e rX5_inDanger s m args below meth c H locs 0 0 Q (F0 m 81 ls []) := by
    intro H locs hP hD hS ls hl
    refine lv_iload_n hx hb dX5_inDanger_81 rfl (lv_at hl 0 rfl) ?_
    cases hg
    exact fin _ _ _ _ dX5_inDanger_82 hP hD hS
  have L : ∀ (nf : Nat) (v9 : Int32) (v10 : Int32), ∀ (H : Heap) (locs : List Loc), va_P D vwCl [(A_t, .inr (5, [.int V_t_thrown, .ref A_t_s, .ref A_t_aside, .ref A_t_snapshot, .int V_t_isKept, .ref A_t_saved, .int V_t_savedMany, .ref A_t_text, .int V_t_length, .ref A_t_counts, .ref A_t_isCut, .ref A_t_strength, .ref A_t_fails, .ref A_t_why, .ref A_t_driver, .ref A_t_place, .ref A_t_isDone, .int V_t_position, .int V_t_isWrong, .long V_t_digested])), (A_t_s, .inl (cI, 77, .inl V_t_s)), (A_t_isCut, .inl (cZ, 9, .inl f1)), (A_t_counts, .inl (cZ, 9, .inl f2)), (A_t_strength, .inl (cI, 9, .inl f3)), (A_t_fails, .inl (cZ, 9, .inl f4)), (A_t_driver, .inl (cI, 9, .inl f5)), (A_t_why, .inl (cI, 9, .inl f6)), (A_t_isDone, .inl (cZ, 9, .inl f7)), (A_t_place, .inl (cI, 9, .inl f8))] H → va_D A [(A_t, .inr (5, [.int V_t_thrown, .ref A_t_s, .ref A_t_aside, .ref A_t_snapshot, .int V_t_isKept, .ref A_t_saved, .int V_t_savedMany, .ref A_t_text, .int V_t_length, .ref A_t_counts, .ref A_t_isCut, .ref A_t_strength, .ref A_t_fails, .ref A_t_why, .ref A_t_driver, .ref A_t_place, .ref A_t_isDone, .int V_t_position, .int V_t_isWrong, .long V_t_digested])), (A_t_s, .inl (cI, 77, .inl V_t_s)), (A_t_isCut, .inl (cZ, 9, .inl f1)), (A_t_counts, .inl (cZ, 9, .inl f2)), (A_t_strength, .inl (cI, 9, .inl f3)), (A_t_fails, .inl (cZ, 9, .inl f4)), (A_t_driver, .inl (cI, 9, .inl f5)), (A_t_why, .inl (cI, 9, .inl f6)), (A_t_isDone, .inl (cZ, 9, .inl f7)), (A_t_place, .inl (cI, 9, .inl f8))] → va_S A s.heap H locs → ∀ ls : Array Slot, lv_has ls 4 [(2, .int v10), (1, .int v9), (0, .ref A_t)] → g_X5_inDanger_L1 V_t_s f5 f3 nf v9 v10 = some v18 → W p l e rX5_inDanger s m args below meth c H locs 0 0 Q (F0 m 8 ls []) := by
    intro nf
    induction nf with
    | zero =>
      intro v9 v10 H locs hP hD hS ls hl hg
      exact no_some hg
    | succ nf ih =>
      intro v9 v10 H locs hP hD hS ls hl hg
      rw [g_X5_inDanger_L1] at hg
      refine lv_iload_n hx hb dX5_inDanger_8 rfl (lv_at hl 0 rfl) ?_
      refine lv_aload_n hx hb dX5_inDanger_9 rfl (lv_at hl 2 rfl) ?_
      refine xget (ci := 5) (C := RX5) (T := TX5) (N := 20) (v := .ref A_t_s) hx hb hts in_X5_inDanger_X5 hown hK hP 0 rfl rfl 1 (by decide) wd_X5_inDanger_1 rfl dX5_inDanger_10 ?_
      refine lv_bipush (v := 9) hx hb dX5_inDanger_13 (by decide) ?_
      obtain ⟨v11, hin, hv, hg⟩ := rdA_ex hg
      refine xiald hx hb hK hP 1 rfl hin hv dX5_inDanger_15 ?_
      refine lv_icmp_ge (tgt := 81) hx hb dX5_inDanger_16 (by decide) (fun hc => ?_) (fun hc => ?_)
      · replace hg := if_yes hg hc
        cases hg
        exact kx _ _ hP hD hS _ (lv_sub hl [1] rfl)
      · replace hg := if_no hg hc
        refine lv_aload_n hx hb dX5_inDanger_19 rfl (lv_at hl 2 rfl) ?_
        refine xget (ci := 5) (C := RX5) (T := TX5) (N := 20) (v := .ref A_t_driver) hx hb hts in_X5_inDanger_X5 hown hK hP 0 rfl rfl 14 (by decide) wd_X5_inDanger_2 rfl dX5_inDanger_20 ?_
        refine lv_iload_n hx hb dX5_inDanger_23 rfl (lv_at hl 0 rfl) ?_
        obtain ⟨v12, hin, hv, hg⟩ := rdA_ex hg
        refine xiald hx hb hK hP 6 rfl hin hv dX5_inDanger_24 ?_
        refine lv_iconst (v := (-1)) hx hb dX5_inDanger_25 (by decide) ?_
        have hJ1 : ∀ (v17 : Int32), bo v17 → ∀ (H : Heap) (locs : List Loc), va_P D vwCl [(A_t, .inr (5, [.int V_t_thrown, .ref A_t_s, .ref A_t_aside, .ref A_t_snapshot, .int V_t_isKept, .ref A_t_saved, .int V_t_savedMany, .ref A_t_text, .int V_t_length, .ref A_t_counts, .ref A_t_isCut, .ref A_t_strength, .ref A_t_fails, .ref A_t_why, .ref A_t_driver, .ref A_t_place, .ref A_t_isDone, .int V_t_position, .int V_t_isWrong, .long V_t_digested])), (A_t_s, .inl (cI, 77, .inl V_t_s)), (A_t_isCut, .inl (cZ, 9, .inl f1)), (A_t_counts, .inl (cZ, 9, .inl f2)), (A_t_strength, .inl (cI, 9, .inl f3)), (A_t_fails, .inl (cZ, 9, .inl f4)), (A_t_driver, .inl (cI, 9, .inl f5)), (A_t_why, .inl (cI, 9, .inl f6)), (A_t_isDone, .inl (cZ, 9, .inl f7)), (A_t_place, .inl (cI, 9, .inl f8))] H → va_D A [(A_t, .inr (5, [.int V_t_thrown, .ref A_t_s, .ref A_t_aside, .ref A_t_snapshot, .int V_t_isKept, .ref A_t_saved, .int V_t_savedMany, .ref A_t_text, .int V_t_length, .ref A_t_counts, .ref A_t_isCut, .ref A_t_strength, .ref A_t_fails, .ref A_t_why, .ref A_t_driver, .ref A_t_place, .ref A_t_isDone, .int V_t_position, .int V_t_isWrong, .long V_t_digested])), (A_t_s, .inl (cI, 77, .inl V_t_s)), (A_t_isCut, .inl (cZ, 9, .inl f1)), (A_t_counts, .inl (cZ, 9, .inl f2)), (A_t_strength, .inl (cI, 9, .inl f3)), (A_t_fails, .inl (cZ, 9, .inl f4)), (A_t_driver, .inl (cI, 9, .inl f5)), (A_t_why, .inl (cI, 9, .inl f6)), (A_t_isDone, .inl (cZ, 9, .inl f7)), (A_t_place, .inl (cI, 9, .inl f8))] → va_S A s.heap H locs → ∀ ls : Array Slot, lv_has ls 4 [(2, .int v10), (1, .int v9), (0, .ref A_t)] → g_X5_inDanger_J1 v9 v10 (g_X5_inDanger_L1 V_t_s f5 f3 nf) v17 = some v18 → W p l e rX5_inDanger s m args below meth c H locs 0 0 Q (F0 m 64 ls [.int v17]) := by
          intro v17 hz_v17 H locs hP hD hS ls hl hg
          unfold g_X5_inDanger_J1 at hg
          refine lv_istore_n (lv' := [(3, .int v17), (2, .int v10), (1, .int v9), (0, .ref A_t)]) hx hb dX5_inDanger_64 rfl hl (by decide) rfl (fun ls hl => ?_)
          refine lv_iload_n hx hb dX5_inDanger_65 rfl (lv_at hl 0 rfl) ?_
          refine lv_if_eq (tgt := 73) hx hb dX5_inDanger_66 (by decide) (fun hc => ?_) (fun hc => ?_)
          · replace hg := if_yes hg hc
            refine lv_iload_n hx hb dX5_inDanger_73 rfl (lv_at hl 2 rfl) ?_
            refine lv_istore_n (lv' := [(1, .int v9), (3, .int v17), (2, .int v10), (0, .ref A_t)]) hx hb dX5_inDanger_74 rfl hl (by decide) rfl (fun ls hl => ?_)
            refine lv_iinc (v := (v10 + 1)) (lv' := [(2, .int (v10 + 1)), (1, .int v9), (3, .int v17), (0, .ref A_t)]) hx hb dX5_inDanger_75 hl (k := 2) rfl rfl (by decide) rfl (fun ls hl => ?_)
            refine lv_goto (tgt := 8) hx hb dX5_inDanger_78 (by decide) ?_
            exact ih _ _ _ _ hP hD hS _ (lv_sub hl [0, 1, 3] rfl) hg
          · replace hg := if_no hg hc
            refine lv_iload_n hx hb dX5_inDanger_69 rfl (lv_at hl 1 rfl) ?_
            refine lv_goto (tgt := 74) hx hb dX5_inDanger_70 (by decide) ?_
            refine lv_istore_n (lv' := [(1, .int v10), (3, .int v17), (2, .int v10), (0, .ref A_t)]) hx hb dX5_inDanger_74 rfl hl (by decide) rfl (fun ls hl => ?_)
            refine lv_iinc (v := (v10 + 1)) (lv' := [(2, .int (v10 + 1)), (1, .int v10), (3, .int v17), (0, .ref A_t)]) hx hb dX5_inDanger_75 hl (k := 2) rfl rfl (by decide) rfl (fun ls hl => ?_)
            refine lv_goto (tgt := 8) hx hb dX5_inDanger_78 (by decide) ?_
            exact ih _ _ _ _ hP hD hS _ (lv_sub hl [0, 1, 3] rfl) hg
        refine lv_icmp_eq (tgt := 63) hx hb dX5_inDanger_26 (by decide) (fun hc => ?_) (fun hc => ?_)
        · replace hg := if_yes hg hc
          refine lv_iconst (v := 0) hx hb dX5_inDanger_63 (by decide) ?_
          exact hJ1 _ bo_0 _ _ hP hD hS _ (lv_sub hl [0, 1, 2] rfl) hg
        · replace hg := if_no hg hc
          refine lv_iload_n hx hb dX5_inDanger_29 rfl (lv_at hl 1 rfl) ?_
          refine lv_iconst (v := (-1)) hx hb dX5_inDanger_30 (by decide) ?_
          refine lv_icmp_eq (tgt := 59) hx hb dX5_inDanger_31 (by decide) (fun hc => ?_) (fun hc => ?_)
          · replace hg := if_yes hg hc
            refine lv_iconst (v := 1) hx hb dX5_inDanger_59 (by decide) ?_
            refine lv_goto (tgt := 64) hx hb dX5_inDanger_60 (by decide) ?_
            exact hJ1 _ bo_1 _ _ hP hD hS _ (lv_sub hl [0, 1, 2] rfl) hg
          · replace hg := if_no hg hc
            refine lv_aload_n hx hb dX5_inDanger_34 rfl (lv_at hl 2 rfl) ?_
            refine xget (ci := 5) (C := RX5) (T := TX5) (N := 20) (v := .ref A_t_strength) hx hb hts in_X5_inDanger_X5 hown hK hP 0 rfl rfl 11 (by decide) wd_X5_inDanger_3 rfl dX5_inDanger_35 ?_
            refine lv_aload_n hx hb dX5_inDanger_38 rfl (lv_at hl 2 rfl) ?_
            refine xget (ci := 5) (C := RX5) (T := TX5) (N := 20) (v := .ref A_t_driver) hx hb hts in_X5_inDanger_X5 hown hK hP 0 rfl rfl 14 (by decide) wd_X5_inDanger_2 rfl dX5_inDanger_39 ?_
            refine lv_iload_n hx hb dX5_inDanger_42 rfl (lv_at hl 0 rfl) ?_
            obtain ⟨v13, hin, hv, hg⟩ := rdA_ex hg
            refine xiald hx hb hK hP 6 rfl hin hv dX5_inDanger_43 ?_
            obtain ⟨v14, hin, hv, hg⟩ := rdA_ex hg
            refine xiald hx hb hK hP 4 rfl hin hv dX5_inDanger_44 ?_
            refine lv_aload_n hx hb dX5_inDanger_45 rfl (lv_at hl 2 rfl) ?_
            refine xget (ci := 5) (C := RX5) (T := TX5) (N := 20) (v := .ref A_t_strength) hx hb hts in_X5_inDanger_X5 hown hK hP 0 rfl rfl 11 (by decide) wd_X5_inDanger_3 rfl dX5_inDanger_46 ?_
            refine lv_aload_n hx hb dX5_inDanger_49 rfl (lv_at hl 2 rfl) ?_
            refine xget (ci := 5) (C := RX5) (T := TX5) (N := 20) (v := .ref A_t_driver) hx hb hts in_X5_inDanger_X5 hown hK hP 0 rfl rfl 14 (by decide) wd_X5_inDanger_2 rfl dX5_inDanger_50 ?_
            refine lv_iload_n hx hb dX5_inDanger_53 rfl (lv_at hl 1 rfl) ?_
            obtain ⟨v15, hin, hv, hg⟩ := rdA_ex hg
            refine xiald hx hb hK hP 6 rfl hin hv dX5_inDanger_54 ?_
            obtain ⟨v16, hin, hv, hg⟩ := rdA_ex hg
            refine xiald hx hb hK hP 4 rfl hin hv dX5_inDanger_55 ?_
            refine lv_icmp_le (tgt := 63) hx hb dX5_inDanger_56 (by decide) (fun hc => ?_) (fun hc => ?_)
            · replace hg := if_yes hg hc
              refine lv_iconst (v := 0) hx hb dX5_inDanger_63 (by decide) ?_
              exact hJ1 _ bo_0 _ _ hP hD hS _ (lv_sub hl [0, 1, 2] rfl) hg
            · replace hg := if_no hg hc
              refine lv_iconst (v := 1) hx hb dX5_inDanger_59 (by decide) ?_
              refine lv_goto (tgt := 64) hx hb dX5_inDanger_60 (by decide) ?_
              exact hJ1 _ bo_1 _ _ hP hD hS _ (lv_sub hl [0, 1, 2] rfl) hg
  exact L FU _ _ _ _ hP hD hS _ (lv_sub hl [0, 1, 2] rfl) hL
theorem hd_X5_danger : yX5_danger.cls = RX5 ∧ yX5_danger.cls ≠ "java/lang/invoke/MethodHandle" ∧ yX5_danger.cls ≠ "java/lang/invoke/VarHandle" ∧ (parseMethodDescriptor yX5_danger.desc).map (fun d => d.parameters.length) = some 0 := by decide +kernel
theorem in_X5_danger_X5 : ∀ w ∈ u_ws RX5 TX5 20, w ∈ wsX5_danger := fun _ h => List.mem_cons_of_mem _ (List.mem_append_right _ h)
theorem wd_X5_danger_1 : Cond.fieldLink RX5 50 "FogOrdersModel" "thrown" "I" ∈ wsX5_danger := List.mem_of_getElem? (i := 1) rfl
abbrev rX5_danger : Room := { frames := 8, cells := 0, slots := 0, locals := 177 }
set_option maxHeartbeats 4000000 in
set_option maxRecDepth 100000 in
theorem c_X5_danger (l : Launch) (D : va_G) (cI cZ cB cJ : ClassId) (A_t : Nat) (A_t_s : Nat) (A_t_aside : Nat) (A_t_snapshot : Nat) (A_t_saved : Nat) (A_t_text : Nat) (A_t_counts : Nat) (A_t_isCut : Nat) (A_t_strength : Nat) (A_t_fails : Nat) (A_t_why : Nat) (A_t_driver : Nat) (A_t_place : Nat) (A_t_isDone : Nat) (sz : Nat) (V_t_thrown : Int32) (V_t_isKept : Int32) (V_t_savedMany : Int32) (V_t_length : Int32) (V_t_position : Int32) (V_t_isWrong : Int32) (V_t_digested : Int64) (V_t_s : Nat → Int32) (V_t_isCut : Nat → Int32) (V_t_counts : Nat → Int32) (V_t_strength : Nat → Int32) (V_t_fails : Nat → Int32) (V_t_driver : Nat → Int32) (V_t_why : Nat → Int32) (V_t_isDone : Nat → Int32) (V_t_place : Nat → Int32) (r0 : Int32) (w1 : Int32) (w2 : Nat → Int32) (w3 : Nat → Int32) (w4 : Nat → Int32) (w5 : Nat → Int32) (w6 : Nat → Int32) (w7 : Nat → Int32) (w8 : Nat → Int32) (w9 : Nat → Int32) (hg : g_X5_danger V_t_thrown V_t_s V_t_isCut V_t_counts V_t_strength V_t_fails V_t_driver V_t_why V_t_isDone V_t_place = some (r0, w1, w2, w3, w4, w5, w6, w7, w8, w9)) : Met l yX5_danger wsX5_danger rX5_danger (PcW D cI cZ cB cJ sz [(A_t, .inr (5, [.int V_t_thrown, .ref A_t_s, .ref A_t_aside, .ref A_t_snapshot, .int V_t_isKept, .ref A_t_saved, .int V_t_savedMany, .ref A_t_text, .int V_t_length, .ref A_t_counts, .ref A_t_isCut, .ref A_t_strength, .ref A_t_fails, .ref A_t_why, .ref A_t_driver, .ref A_t_place, .ref A_t_isDone, .int V_t_position, .int V_t_isWrong, .long V_t_digested])), (A_t_s, .inl (cI, 77, .inl V_t_s)), (A_t_isCut, .inl (cZ, 9, .inl V_t_isCut)), (A_t_counts, .inl (cZ, 9, .inl V_t_counts)), (A_t_strength, .inl (cI, 9, .inl V_t_strength)), (A_t_fails, .inl (cZ, 9, .inl V_t_fails)), (A_t_driver, .inl (cI, 9, .inl V_t_driver)), (A_t_why, .inl (cI, 9, .inl V_t_why)), (A_t_isDone, .inl (cZ, 9, .inl V_t_isDone)), (A_t_place, .inl (cI, 9, .inl V_t_place))] [.ref A_t]) (QWi D cI cZ cB cJ sz [(A_t, .inr (5, [.int V_t_thrown, .ref A_t_s, .ref A_t_aside, .ref A_t_snapshot, .int V_t_isKept, .ref A_t_saved, .int V_t_savedMany, .ref A_t_text, .int V_t_length, .ref A_t_counts, .ref A_t_isCut, .ref A_t_strength, .ref A_t_fails, .ref A_t_why, .ref A_t_driver, .ref A_t_place, .ref A_t_isDone, .int V_t_position, .int V_t_isWrong, .long V_t_digested])), (A_t_s, .inl (cI, 77, .inl V_t_s)), (A_t_isCut, .inl (cZ, 9, .inl V_t_isCut)), (A_t_counts, .inl (cZ, 9, .inl V_t_counts)), (A_t_strength, .inl (cI, 9, .inl V_t_strength)), (A_t_fails, .inl (cZ, 9, .inl V_t_fails)), (A_t_driver, .inl (cI, 9, .inl V_t_driver)), (A_t_why, .inl (cI, 9, .inl V_t_why)), (A_t_isDone, .inl (cZ, 9, .inl V_t_isDone)), (A_t_place, .inl (cI, 9, .inl V_t_place))] [(A_t, .inr (5, [.int w1, .ref A_t_s, .ref A_t_aside, .ref A_t_snapshot, .int V_t_isKept, .ref A_t_saved, .int V_t_savedMany, .ref A_t_text, .int V_t_length, .ref A_t_counts, .ref A_t_isCut, .ref A_t_strength, .ref A_t_fails, .ref A_t_why, .ref A_t_driver, .ref A_t_place, .ref A_t_isDone, .int V_t_position, .int V_t_isWrong, .long V_t_digested])), (A_t_s, .inl (cI, 77, .inl V_t_s)), (A_t_isCut, .inl (cZ, 9, .inl w2)), (A_t_counts, .inl (cZ, 9, .inl w3)), (A_t_strength, .inl (cI, 9, .inl w4)), (A_t_fails, .inl (cZ, 9, .inl w5)), (A_t_driver, .inl (cI, 9, .inl w6)), (A_t_why, .inl (cI, 9, .inl w7)), (A_t_isDone, .inl (cZ, 9, .inl w8)), (A_t_place, .inl (cI, 9, .inl w9))] r0) 0 0 (va_A [(A_t, .inr (5, [.int V_t_thrown, .ref A_t_s, .ref A_t_aside, .ref A_t_snapshot, .int V_t_isKept, .ref A_t_saved, .int V_t_savedMany, .ref A_t_text, .int V_t_length, .ref A_t_counts, .ref A_t_isCut, .ref A_t_strength, .ref A_t_fails, .ref A_t_why, .ref A_t_driver, .ref A_t_place, .ref A_t_isDone, .int V_t_position, .int V_t_isWrong, .long V_t_digested])), (A_t_s, .inl (cI, 77, .inl V_t_s)), (A_t_isCut, .inl (cZ, 9, .inl V_t_isCut)), (A_t_counts, .inl (cZ, 9, .inl V_t_counts)), (A_t_strength, .inl (cI, 9, .inl V_t_strength)), (A_t_fails, .inl (cZ, 9, .inl V_t_fails)), (A_t_driver, .inl (cI, 9, .inl V_t_driver)), (A_t_why, .inl (cI, 9, .inl V_t_why)), (A_t_isDone, .inl (cZ, 9, .inl V_t_isDone)), (A_t_place, .inl (cI, 9, .inl V_t_place))] sz) := by
  refine bodyWi (cc := cX5_danger) (maxL := 1) (lv := [(0, .ref A_t)]) (by decide) rfl (Nat.le_of_ble_eq_true rfl) rfl ?_
  intro p e s m args below meth c Q hx hb hml hown hts A hP hK hD hA hS fin ls hl
  replace hown : s.vm.findClass RX5 = some m.cls := hown
  have S : CallFix p m c cX5_danger 1 s args wsX5_danger RX5 := ⟨hx, hb, hml, hown, hts⟩
  unfold g_X5_danger at hg
  refine lv_aload_n hx hb dX5_danger_0 rfl (lv_at hl 0 rfl) ?_
  refine lv_iconst (v := 0) hx hb dX5_danger_1 (by decide) ?_
  refine xput (ci := 5) (C := RX5) (T := TX5) (N := 20) (ty := .int) (v := .int 0) (ws2 := [(A_t, .inr (5, [.int 0, .ref A_t_s, .ref A_t_aside, .ref A_t_snapshot, .int V_t_isKept, .ref A_t_saved, .int V_t_savedMany, .ref A_t_text, .int V_t_length, .ref A_t_counts, .ref A_t_isCut, .ref A_t_strength, .ref A_t_fails, .ref A_t_why, .ref A_t_driver, .ref A_t_place, .ref A_t_isDone, .int V_t_position, .int V_t_isWrong, .long V_t_digested])), (A_t_s, .inl (cI, 77, .inl V_t_s)), (A_t_isCut, .inl (cZ, 9, .inl V_t_isCut)), (A_t_counts, .inl (cZ, 9, .inl V_t_counts)), (A_t_strength, .inl (cI, 9, .inl V_t_strength)), (A_t_fails, .inl (cZ, 9, .inl V_t_fails)), (A_t_driver, .inl (cI, 9, .inl V_t_driver)), (A_t_why, .inl (cI, 9, .inl V_t_why)), (A_t_isDone, .inl (cZ, 9, .inl V_t_isDone)), (A_t_place, .inl (cI, 9, .inl V_t_place))]) hx hb hts in_X5_danger_X5 tyX5 tyX5_ok nmX5 hown hK hP hD hS 0 rfl rfl 0 (by decide) wd_X5_danger_1 rfl (by decide +kernel) rfl rfl (Nat.le_of_ble_eq_true rfl) rfl dX5_danger_2 (fun H locs hP hD hS => ?_)
  refine lv_aload_n hx hb dX5_danger_5 rfl (lv_at hl 0 rfl) ?_
  obtain ⟨v9, f1, f2, f3, f4, f5, f6, f7, f8, hq, hg⟩ := b9_ex hg
  refine callWV (As := []) (rest := []) (wr := []) S hK hP hD hS hA (c_X5_inDanger l D cI cZ cB cJ A_t A_t_s A_t_aside A_t_snapshot A_t_saved A_t_text A_t_counts A_t_isCut A_t_strength A_t_fails A_t_why A_t_driver A_t_place A_t_isDone _ 0 V_t_isKept V_t_savedMany V_t_length V_t_position V_t_isWrong V_t_digested V_t_s V_t_isCut V_t_counts V_t_strength V_t_fails V_t_driver V_t_why V_t_isDone V_t_place v9 f1 f2 f3 f4 f5 f6 f7 f8 hq) [0, 1, 2, 3, 4, 5, 6, 7, 8, 9] [] rfl rfl (by decide +kernel) (by decide +kernel) (by decide +kernel) (cwV 0 hts gX5_danger_X5_inDanger rfl rfl rfl hd_X5_inDanger ⟨Nat.le_of_ble_eq_true rfl, Nat.le_of_ble_eq_true rfl⟩) rfl rfl rfl hl.1 rfl (Nat.le_of_ble_eq_true rfl) dX5_danger_6 ⟨Nat.zero_le _, Nat.zero_le _⟩ (fun H locs hP hD hS => ?_)
  replace hP : va_P D vwCl [(A_t, .inr (5, [.int 0, .ref A_t_s, .ref A_t_aside, .ref A_t_snapshot, .int V_t_isKept, .ref A_t_saved, .int V_t_savedMany, .ref A_t_text, .int V_t_length, .ref A_t_counts, .ref A_t_isCut, .ref A_t_strength, .ref A_t_fails, .ref A_t_why, .ref A_t_driver, .ref A_t_place, .ref A_t_isDone, .int V_t_position, .int V_t_isWrong, .long V_t_digested])), (A_t_s, .inl (cI, 77, .inl V_t_s)), (A_t_isCut, .inl (cZ, 9, .inl f1)), (A_t_counts, .inl (cZ, 9, .inl f2)), (A_t_strength, .inl (cI, 9, .inl f3)), (A_t_fails, .inl (cZ, 9, .inl f4)), (A_t_driver, .inl (cI, 9, .inl f5)), (A_t_why, .inl (cI, 9, .inl f6)), (A_t_isDone, .inl (cZ, 9, .inl f7)), (A_t_place, .inl (cI, 9, .inl f8))] H := hP
  replace hD : va_D A [(A_t, .inr (5, [.int 0, .ref A_t_s, .ref A_t_aside, .ref A_t_snapshot, .int V_t_isKept, .ref A_t_saved, .int V_t_savedMany, .ref A_t_text, .int V_t_length, .ref A_t_counts, .ref A_t_isCut, .ref A_t_strength, .ref A_t_fails, .ref A_t_why, .ref A_t_driver, .ref A_t_place, .ref A_t_isDone, .int V_t_position, .int V_t_isWrong, .long V_t_digested])), (A_t_s, .inl (cI, 77, .inl V_t_s)), (A_t_isCut, .inl (cZ, 9, .inl f1)), (A_t_counts, .inl (cZ, 9, .inl f2)), (A_t_strength, .inl (cI, 9, .inl f3)), (A_t_fails, .inl (cZ, 9, .inl f4)), (A_t_driver, .inl (cI, 9, .inl f5)), (A_t_why, .inl (cI, 9, .inl f6)), (A_t_isDone, .inl (cZ, 9, .inl f7)), (A_t_place, .inl (cI, 9, .inl f8))] := hD
  cases hg
  exact fin _ _ _ _ dX5_danger_9 hP hD hS
theorem hd_X5_centresThen : yX5_centresThen.cls = RX5 ∧ yX5_centresThen.cls ≠ "java/lang/invoke/MethodHandle" ∧ yX5_centresThen.cls ≠ "java/lang/invoke/VarHandle" ∧ (parseMethodDescriptor yX5_centresThen.desc).map (fun d => d.parameters.length) = some 1 := by decide +kernel
abbrev rX5_centresThen : Room := { frames := 8, cells := 0, slots := 0, locals := 178 }
set_option maxHeartbeats 4000000 in
set_option maxRecDepth 100000 in
theorem c_X5_centresThen (l : Launch) (D : va_G) (cI cZ cB cJ : ClassId) (A_t : Nat) (A_t_s : Nat) (A_t_aside : Nat) (A_t_snapshot : Nat) (A_t_saved : Nat) (A_t_text : Nat) (A_t_counts : Nat) (A_t_isCut : Nat) (A_t_strength : Nat) (A_t_fails : Nat) (A_t_why : Nat) (A_t_driver : Nat) (A_t_place : Nat) (A_t_isDone : Nat) (sz : Nat) (V_t_thrown : Int32) (V_t_isKept : Int32) (V_t_savedMany : Int32) (V_t_length : Int32) (V_t_position : Int32) (V_t_isWrong : Int32) (V_t_digested : Int64) (V_t_s : Nat → Int32) (V_t_aside : Nat → Int32) (V_t_isCut : Nat → Int32) (V_t_counts : Nat → Int32) (V_t_strength : Nat → Int32) (V_t_fails : Nat → Int32) (V_t_driver : Nat → Int32) (V_t_why : Nat → Int32) (V_t_isDone : Nat → Int32) (V_t_place : Nat → Int32) (x1 : Int32) (r0 : Int32) (w1 : Nat → Int32) (w2 : Nat → Int32) (w3 : Nat → Int32) (w4 : Nat → Int32) (w5 : Nat → Int32) (w6 : Nat → Int32) (w7 : Nat → Int32) (w8 : Nat → Int32) (w9 : Nat → Int32) (w10 : Nat → Int32) (hg : g_X5_centresThen V_t_s V_t_aside V_t_isCut V_t_counts V_t_strength V_t_fails V_t_driver V_t_why V_t_isDone V_t_place x1 = some (r0, w1, w2, w3, w4, w5, w6, w7, w8, w9, w10)) : Met l yX5_centresThen wsX5_centresThen rX5_centresThen (PcW D cI cZ cB cJ sz [(A_t, .inr (5, [.int V_t_thrown, .ref A_t_s, .ref A_t_aside, .ref A_t_snapshot, .int V_t_isKept, .ref A_t_saved, .int V_t_savedMany, .ref A_t_text, .int V_t_length, .ref A_t_counts, .ref A_t_isCut, .ref A_t_strength, .ref A_t_fails, .ref A_t_why, .ref A_t_driver, .ref A_t_place, .ref A_t_isDone, .int V_t_position, .int V_t_isWrong, .long V_t_digested])), (A_t_s, .inl (cI, 77, .inl V_t_s)), (A_t_aside, .inl (cI, 77, .inl V_t_aside)), (A_t_isCut, .inl (cZ, 9, .inl V_t_isCut)), (A_t_counts, .inl (cZ, 9, .inl V_t_counts)), (A_t_strength, .inl (cI, 9, .inl V_t_strength)), (A_t_fails, .inl (cZ, 9, .inl V_t_fails)), (A_t_driver, .inl (cI, 9, .inl V_t_driver)), (A_t_why, .inl (cI, 9, .inl V_t_why)), (A_t_isDone, .inl (cZ, 9, .inl V_t_isDone)), (A_t_place, .inl (cI, 9, .inl V_t_place))] [.ref A_t, .int x1]) (QWi D cI cZ cB cJ sz [(A_t, .inr (5, [.int V_t_thrown, .ref A_t_s, .ref A_t_aside, .ref A_t_snapshot, .int V_t_isKept, .ref A_t_saved, .int V_t_savedMany, .ref A_t_text, .int V_t_length, .ref A_t_counts, .ref A_t_isCut, .ref A_t_strength, .ref A_t_fails, .ref A_t_why, .ref A_t_driver, .ref A_t_place, .ref A_t_isDone, .int V_t_position, .int V_t_isWrong, .long V_t_digested])), (A_t_s, .inl (cI, 77, .inl V_t_s)), (A_t_aside, .inl (cI, 77, .inl V_t_aside)), (A_t_isCut, .inl (cZ, 9, .inl V_t_isCut)), (A_t_counts, .inl (cZ, 9, .inl V_t_counts)), (A_t_strength, .inl (cI, 9, .inl V_t_strength)), (A_t_fails, .inl (cZ, 9, .inl V_t_fails)), (A_t_driver, .inl (cI, 9, .inl V_t_driver)), (A_t_why, .inl (cI, 9, .inl V_t_why)), (A_t_isDone, .inl (cZ, 9, .inl V_t_isDone)), (A_t_place, .inl (cI, 9, .inl V_t_place))] [(A_t, .inr (5, [.int V_t_thrown, .ref A_t_s, .ref A_t_aside, .ref A_t_snapshot, .int V_t_isKept, .ref A_t_saved, .int V_t_savedMany, .ref A_t_text, .int V_t_length, .ref A_t_counts, .ref A_t_isCut, .ref A_t_strength, .ref A_t_fails, .ref A_t_why, .ref A_t_driver, .ref A_t_place, .ref A_t_isDone, .int V_t_position, .int V_t_isWrong, .long V_t_digested])), (A_t_s, .inl (cI, 77, .inl w1)), (A_t_aside, .inl (cI, 77, .inl w2)), (A_t_isCut, .inl (cZ, 9, .inl w3)), (A_t_counts, .inl (cZ, 9, .inl w4)), (A_t_strength, .inl (cI, 9, .inl w5)), (A_t_fails, .inl (cZ, 9, .inl w6)), (A_t_driver, .inl (cI, 9, .inl w7)), (A_t_why, .inl (cI, 9, .inl w8)), (A_t_isDone, .inl (cZ, 9, .inl w9)), (A_t_place, .inl (cI, 9, .inl w10))] r0) 0 0 (va_A [(A_t, .inr (5, [.int V_t_thrown, .ref A_t_s, .ref A_t_aside, .ref A_t_snapshot, .int V_t_isKept, .ref A_t_saved, .int V_t_savedMany, .ref A_t_text, .int V_t_length, .ref A_t_counts, .ref A_t_isCut, .ref A_t_strength, .ref A_t_fails, .ref A_t_why, .ref A_t_driver, .ref A_t_place, .ref A_t_isDone, .int V_t_position, .int V_t_isWrong, .long V_t_digested])), (A_t_s, .inl (cI, 77, .inl V_t_s)), (A_t_aside, .inl (cI, 77, .inl V_t_aside)), (A_t_isCut, .inl (cZ, 9, .inl V_t_isCut)), (A_t_counts, .inl (cZ, 9, .inl V_t_counts)), (A_t_strength, .inl (cI, 9, .inl V_t_strength)), (A_t_fails, .inl (cZ, 9, .inl V_t_fails)), (A_t_driver, .inl (cI, 9, .inl V_t_driver)), (A_t_why, .inl (cI, 9, .inl V_t_why)), (A_t_isDone, .inl (cZ, 9, .inl V_t_isDone)), (A_t_place, .inl (cI, 9, .inl V_t_place))] sz) := by
  refine bodyWi (cc := cX5_centresThen) (maxL := 4) (lv := [(0, .ref A_t), (1, .int x1)]) (by decide) rfl (Nat.le_of_ble_eq_true rfl) rfl ?_
  intro p e s m args below meth c Q hx hb hml hown hts A hP hK hD hA hS fin ls hl
  replace hown : s.vm.findClass RX5 = some m.cls := hown
  have S : CallFix p m c cX5_centresThen 4 s args wsX5_centresThen RX5 := ⟨hx, hb, hml, hown, hts⟩
  unfold g_X5_centresThen at hg
  refine lv_aload_n hx hb dX5_centresThen_0 rfl (lv_at hl 0 rfl) ?_
  obtain ⟨f1, hq, hg⟩ := bind_ex hg
  refine callWVv (As := []) (rest := []) (wr := [(A_t_isCut, .inl (cZ, 9, .inl V_t_isCut)), (A_t_counts, .inl (cZ, 9, .inl V_t_counts)), (A_t_strength, .inl (cI, 9, .inl V_t_strength)), (A_t_fails, .inl (cZ, 9, .inl V_t_fails)), (A_t_driver, .inl (cI, 9, .inl V_t_driver)), (A_t_why, .inl (cI, 9, .inl V_t_why)), (A_t_isDone, .inl (cZ, 9, .inl V_t_isDone)), (A_t_place, .inl (cI, 9, .inl V_t_place))]) S hK hP hD hS hA (c_X5_putAside l D cI cZ cB cJ A_t A_t_s A_t_aside A_t_snapshot A_t_saved A_t_text A_t_counts A_t_isCut A_t_strength A_t_fails A_t_why A_t_driver A_t_place A_t_isDone _ V_t_thrown V_t_isKept V_t_savedMany V_t_length V_t_position V_t_isWrong V_t_digested V_t_s V_t_aside f1 hq) [0, 1, 2] [3, 4, 5, 6, 7, 8, 9, 10] rfl rfl (by decide +kernel) (by decide +kernel) (by decide +kernel) (cwV 0 hts gX5_centresThen_X5_putAside rfl rfl rfl hd_X5_putAside ⟨Nat.le_of_ble_eq_true rfl, Nat.le_of_ble_eq_true rfl⟩) rfl rfl rfl hl.1 rfl (Nat.le_of_ble_eq_true rfl) dX5_centresThen_1 ⟨Nat.zero_le _, Nat.zero_le _⟩ (fun H locs hP hD hS => ?_)
  replace hP : va_P D vwCl [(A_t_isCut, .inl (cZ, 9, .inl V_t_isCut)), (A_t_counts, .inl (cZ, 9, .inl V_t_counts)), (A_t_strength, .inl (cI, 9, .inl V_t_strength)), (A_t_fails, .inl (cZ, 9, .inl V_t_fails)), (A_t_driver, .inl (cI, 9, .inl V_t_driver)), (A_t_why, .inl (cI, 9, .inl V_t_why)), (A_t_isDone, .inl (cZ, 9, .inl V_t_isDone)), (A_t_place, .inl (cI, 9, .inl V_t_place)), (A_t, .inr (5, [.int V_t_thrown, .ref A_t_s, .ref A_t_aside, .ref A_t_snapshot, .int V_t_isKept, .ref A_t_saved, .int V_t_savedMany, .ref A_t_text, .int V_t_length, .ref A_t_counts, .ref A_t_isCut, .ref A_t_strength, .ref A_t_fails, .ref A_t_why, .ref A_t_driver, .ref A_t_place, .ref A_t_isDone, .int V_t_position, .int V_t_isWrong, .long V_t_digested])), (A_t_s, .inl (cI, 77, .inl V_t_s)), (A_t_aside, .inl (cI, 77, .inl f1))] H := hP
  replace hD : va_D A [(A_t_isCut, .inl (cZ, 9, .inl V_t_isCut)), (A_t_counts, .inl (cZ, 9, .inl V_t_counts)), (A_t_strength, .inl (cI, 9, .inl V_t_strength)), (A_t_fails, .inl (cZ, 9, .inl V_t_fails)), (A_t_driver, .inl (cI, 9, .inl V_t_driver)), (A_t_why, .inl (cI, 9, .inl V_t_why)), (A_t_isDone, .inl (cZ, 9, .inl V_t_isDone)), (A_t_place, .inl (cI, 9, .inl V_t_place)), (A_t, .inr (5, [.int V_t_thrown, .ref A_t_s, .ref A_t_aside, .ref A_t_snapshot, .int V_t_isKept, .ref A_t_saved, .int V_t_savedMany, .ref A_t_text, .int V_t_length, .ref A_t_counts, .ref A_t_isCut, .ref A_t_strength, .ref A_t_fails, .ref A_t_why, .ref A_t_driver, .ref A_t_place, .ref A_t_isDone, .int V_t_position, .int V_t_isWrong, .long V_t_digested])), (A_t_s, .inl (cI, 77, .inl V_t_s)), (A_t_aside, .inl (cI, 77, .inl f1))] := hD
  refine lv_aload_n hx hb dX5_centresThen_4 rfl (lv_at hl 0 rfl) ?_
  obtain ⟨v11, f2, f3, f4, f5, f6, f7, f8, f9, f10, hq, hg⟩ := b10_ex hg
  refine callWV (As := []) (rest := []) (wr := [(A_t_aside, .inl (cI, 77, .inl f1))]) S hK hP hD hS hA (c_X5_opens l D cI cZ cB cJ A_t A_t_s A_t_aside A_t_snapshot A_t_saved A_t_text A_t_counts A_t_isCut A_t_strength A_t_fails A_t_why A_t_driver A_t_place A_t_isDone _ V_t_thrown V_t_isKept V_t_savedMany V_t_length V_t_position V_t_isWrong V_t_digested V_t_s V_t_isCut V_t_counts V_t_strength V_t_fails V_t_driver V_t_why V_t_isDone V_t_place v11 f2 f3 f4 f5 f6 f7 f8 f9 f10 hq) [8, 9, 0, 1, 2, 3, 4, 5, 6, 7] [10] rfl rfl (by decide +kernel) (by decide +kernel) (by decide +kernel) (cwV 0 hts gX5_centresThen_X5_opens rfl rfl rfl hd_X5_opens ⟨Nat.le_of_ble_eq_true rfl, Nat.le_of_ble_eq_true rfl⟩) rfl rfl rfl hl.1 rfl (Nat.le_of_ble_eq_true rfl) dX5_centresThen_5 ⟨Nat.zero_le _, Nat.zero_le _⟩ (fun H locs hP hD hS => ?_)
  replace hP : va_P D vwCl [(A_t_aside, .inl (cI, 77, .inl f1)), (A_t, .inr (5, [.int V_t_thrown, .ref A_t_s, .ref A_t_aside, .ref A_t_snapshot, .int V_t_isKept, .ref A_t_saved, .int V_t_savedMany, .ref A_t_text, .int V_t_length, .ref A_t_counts, .ref A_t_isCut, .ref A_t_strength, .ref A_t_fails, .ref A_t_why, .ref A_t_driver, .ref A_t_place, .ref A_t_isDone, .int V_t_position, .int V_t_isWrong, .long V_t_digested])), (A_t_s, .inl (cI, 77, .inl f2)), (A_t_isCut, .inl (cZ, 9, .inl f3)), (A_t_counts, .inl (cZ, 9, .inl f4)), (A_t_strength, .inl (cI, 9, .inl f5)), (A_t_fails, .inl (cZ, 9, .inl f6)), (A_t_driver, .inl (cI, 9, .inl f7)), (A_t_why, .inl (cI, 9, .inl f8)), (A_t_isDone, .inl (cZ, 9, .inl f9)), (A_t_place, .inl (cI, 9, .inl f10))] H := hP
  replace hD : va_D A [(A_t_aside, .inl (cI, 77, .inl f1)), (A_t, .inr (5, [.int V_t_thrown, .ref A_t_s, .ref A_t_aside, .ref A_t_snapshot, .int V_t_isKept, .ref A_t_saved, .int V_t_savedMany, .ref A_t_text, .int V_t_length, .ref A_t_counts, .ref A_t_isCut, .ref A_t_strength, .ref A_t_fails, .ref A_t_why, .ref A_t_driver, .ref A_t_place, .ref A_t_isDone, .int V_t_position, .int V_t_isWrong, .long V_t_digested])), (A_t_s, .inl (cI, 77, .inl f2)), (A_t_isCut, .inl (cZ, 9, .inl f3)), (A_t_counts, .inl (cZ, 9, .inl f4)), (A_t_strength, .inl (cI, 9, .inl f5)), (A_t_fails, .inl (cZ, 9, .inl f6)), (A_t_driver, .inl (cI, 9, .inl f7)), (A_t_why, .inl (cI, 9, .inl f8)), (A_t_isDone, .inl (cZ, 9, .inl f9)), (A_t_place, .inl (cI, 9, .inl f10))] := hD
  refine lv_istore_n (lv' := [(2, .int v11), (0, .ref A_t), (1, .int x1)]) hx hb dX5_centresThen_8 rfl hl (by decide) rfl (fun ls hl => ?_)
  refine lv_aload_n hx hb dX5_centresThen_9 rfl (lv_at hl 1 rfl) ?_
  obtain ⟨f12, hq, hg⟩ := bind_ex hg
  refine callWVv (As := []) (rest := []) (wr := [(A_t_aside, .inl (cI, 77, .inl f1)), (A_t_isCut, .inl (cZ, 9, .inl f3)), (A_t_counts, .inl (cZ, 9, .inl f4)), (A_t_strength, .inl (cI, 9, .inl f5)), (A_t_fails, .inl (cZ, 9, .inl f6)), (A_t_driver, .inl (cI, 9, .inl f7)), (A_t_why, .inl (cI, 9, .inl f8)), (A_t_isDone, .inl (cZ, 9, .inl f9)), (A_t_place, .inl (cI, 9, .inl f10))]) S hK hP hD hS hA (c_X5_belongs l D cI cZ cB cJ A_t A_t_s A_t_aside A_t_snapshot A_t_saved A_t_text A_t_counts A_t_isCut A_t_strength A_t_fails A_t_why A_t_driver A_t_place A_t_isDone _ V_t_thrown V_t_isKept V_t_savedMany V_t_length V_t_position V_t_isWrong V_t_digested f2 f12 hq) [1, 2] [0, 3, 4, 5, 6, 7, 8, 9, 10] rfl rfl (by decide +kernel) (by decide +kernel) (by decide +kernel) (cwV 0 hts gX5_centresThen_X5_belongs rfl rfl rfl hd_X5_belongs ⟨Nat.le_of_ble_eq_true rfl, Nat.le_of_ble_eq_true rfl⟩) rfl rfl rfl hl.1 rfl (Nat.le_of_ble_eq_true rfl) dX5_centresThen_10 ⟨Nat.zero_le _, Nat.zero_le _⟩ (fun H locs hP hD hS => ?_)
  replace hP : va_P D vwCl [(A_t_aside, .inl (cI, 77, .inl f1)), (A_t_isCut, .inl (cZ, 9, .inl f3)), (A_t_counts, .inl (cZ, 9, .inl f4)), (A_t_strength, .inl (cI, 9, .inl f5)), (A_t_fails, .inl (cZ, 9, .inl f6)), (A_t_driver, .inl (cI, 9, .inl f7)), (A_t_why, .inl (cI, 9, .inl f8)), (A_t_isDone, .inl (cZ, 9, .inl f9)), (A_t_place, .inl (cI, 9, .inl f10)), (A_t, .inr (5, [.int V_t_thrown, .ref A_t_s, .ref A_t_aside, .ref A_t_snapshot, .int V_t_isKept, .ref A_t_saved, .int V_t_savedMany, .ref A_t_text, .int V_t_length, .ref A_t_counts, .ref A_t_isCut, .ref A_t_strength, .ref A_t_fails, .ref A_t_why, .ref A_t_driver, .ref A_t_place, .ref A_t_isDone, .int V_t_position, .int V_t_isWrong, .long V_t_digested])), (A_t_s, .inl (cI, 77, .inl f12))] H := hP
  replace hD : va_D A [(A_t_aside, .inl (cI, 77, .inl f1)), (A_t_isCut, .inl (cZ, 9, .inl f3)), (A_t_counts, .inl (cZ, 9, .inl f4)), (A_t_strength, .inl (cI, 9, .inl f5)), (A_t_fails, .inl (cZ, 9, .inl f6)), (A_t_driver, .inl (cI, 9, .inl f7)), (A_t_why, .inl (cI, 9, .inl f8)), (A_t_isDone, .inl (cZ, 9, .inl f9)), (A_t_place, .inl (cI, 9, .inl f10)), (A_t, .inr (5, [.int V_t_thrown, .ref A_t_s, .ref A_t_aside, .ref A_t_snapshot, .int V_t_isKept, .ref A_t_saved, .int V_t_savedMany, .ref A_t_text, .int V_t_length, .ref A_t_counts, .ref A_t_isCut, .ref A_t_strength, .ref A_t_fails, .ref A_t_why, .ref A_t_driver, .ref A_t_place, .ref A_t_isDone, .int V_t_position, .int V_t_isWrong, .long V_t_digested])), (A_t_s, .inl (cI, 77, .inl f12))] := hD
  refine lv_aload_n hx hb dX5_centresThen_13 rfl (lv_at hl 1 rfl) ?_
  refine lv_iload_n hx hb dX5_centresThen_14 rfl (lv_at hl 2 rfl) ?_
  obtain ⟨v13, hq, hg⟩ := bind_ex hg
  refine callRVi (As := [.int x1]) (rest := []) S hK hP (c_X5_centresOf l D cI cZ cB cJ A_t A_t_s A_t_aside A_t_snapshot A_t_saved A_t_text A_t_counts A_t_isCut A_t_strength A_t_fails A_t_why A_t_driver A_t_place A_t_isDone V_t_thrown V_t_isKept V_t_savedMany V_t_length V_t_position V_t_isWrong V_t_digested f12 x1 v13 hq) [9, 10] rfl (cwV 1 hts gX5_centresThen_X5_centresOf rfl rfl rfl hd_X5_centresOf ⟨Nat.le_of_ble_eq_true rfl, Nat.le_of_ble_eq_true rfl⟩) rfl rfl rfl hl.1 rfl (Nat.le_of_ble_eq_true rfl) dX5_centresThen_15 ⟨Nat.zero_le _, Nat.zero_le _⟩ ?_
  refine lv_istore_n (lv' := [(3, .int v13), (2, .int v11), (0, .ref A_t), (1, .int x1)]) hx hb dX5_centresThen_18 rfl hl (by decide) rfl (fun ls hl => ?_)
  refine lv_aload_n hx hb dX5_centresThen_19 rfl (lv_at hl 2 rfl) ?_
  obtain ⟨f14, hq, hg⟩ := bind_ex hg
  refine callWVv (As := []) (rest := []) (wr := [(A_t_isCut, .inl (cZ, 9, .inl f3)), (A_t_counts, .inl (cZ, 9, .inl f4)), (A_t_strength, .inl (cI, 9, .inl f5)), (A_t_fails, .inl (cZ, 9, .inl f6)), (A_t_driver, .inl (cI, 9, .inl f7)), (A_t_why, .inl (cI, 9, .inl f8)), (A_t_isDone, .inl (cZ, 9, .inl f9)), (A_t_place, .inl (cI, 9, .inl f10))]) S hK hP hD hS hA (c_X5_putBack l D cI cZ cB cJ A_t A_t_s A_t_aside A_t_snapshot A_t_saved A_t_text A_t_counts A_t_isCut A_t_strength A_t_fails A_t_why A_t_driver A_t_place A_t_isDone _ V_t_thrown V_t_isKept V_t_savedMany V_t_length V_t_position V_t_isWrong V_t_digested f1 f12 f14 hq) [9, 0, 10] [1, 2, 3, 4, 5, 6, 7, 8] rfl rfl (by decide +kernel) (by decide +kernel) (by decide +kernel) (cwV 0 hts gX5_centresThen_X5_putBack rfl rfl rfl hd_X5_putBack ⟨Nat.le_of_ble_eq_true rfl, Nat.le_of_ble_eq_true rfl⟩) rfl rfl rfl hl.1 rfl (Nat.le_of_ble_eq_true rfl) dX5_centresThen_20 ⟨Nat.zero_le _, Nat.zero_le _⟩ (fun H locs hP hD hS => ?_)
  replace hP : va_P D vwCl [(A_t_isCut, .inl (cZ, 9, .inl f3)), (A_t_counts, .inl (cZ, 9, .inl f4)), (A_t_strength, .inl (cI, 9, .inl f5)), (A_t_fails, .inl (cZ, 9, .inl f6)), (A_t_driver, .inl (cI, 9, .inl f7)), (A_t_why, .inl (cI, 9, .inl f8)), (A_t_isDone, .inl (cZ, 9, .inl f9)), (A_t_place, .inl (cI, 9, .inl f10)), (A_t, .inr (5, [.int V_t_thrown, .ref A_t_s, .ref A_t_aside, .ref A_t_snapshot, .int V_t_isKept, .ref A_t_saved, .int V_t_savedMany, .ref A_t_text, .int V_t_length, .ref A_t_counts, .ref A_t_isCut, .ref A_t_strength, .ref A_t_fails, .ref A_t_why, .ref A_t_driver, .ref A_t_place, .ref A_t_isDone, .int V_t_position, .int V_t_isWrong, .long V_t_digested])), (A_t_aside, .inl (cI, 77, .inl f1)), (A_t_s, .inl (cI, 77, .inl f14))] H := hP
  replace hD : va_D A [(A_t_isCut, .inl (cZ, 9, .inl f3)), (A_t_counts, .inl (cZ, 9, .inl f4)), (A_t_strength, .inl (cI, 9, .inl f5)), (A_t_fails, .inl (cZ, 9, .inl f6)), (A_t_driver, .inl (cI, 9, .inl f7)), (A_t_why, .inl (cI, 9, .inl f8)), (A_t_isDone, .inl (cZ, 9, .inl f9)), (A_t_place, .inl (cI, 9, .inl f10)), (A_t, .inr (5, [.int V_t_thrown, .ref A_t_s, .ref A_t_aside, .ref A_t_snapshot, .int V_t_isKept, .ref A_t_saved, .int V_t_savedMany, .ref A_t_text, .int V_t_length, .ref A_t_counts, .ref A_t_isCut, .ref A_t_strength, .ref A_t_fails, .ref A_t_why, .ref A_t_driver, .ref A_t_place, .ref A_t_isDone, .int V_t_position, .int V_t_isWrong, .long V_t_digested])), (A_t_aside, .inl (cI, 77, .inl f1)), (A_t_s, .inl (cI, 77, .inl f14))] := hD
  refine lv_iload_n hx hb dX5_centresThen_23 rfl (lv_at hl 0 rfl) ?_
  cases hg
  exact fin _ _ _ _ dX5_centresThen_24 (hP.sub [8, 10, 9, 0, 1, 2, 3, 4, 5, 6, 7] rfl) (hD.sub [8, 10, 9, 0, 1, 2, 3, 4, 5, 6, 7] (by decide) rfl) hS
theorem hd_X5_ifYear : yX5_ifYear.cls = RX5 ∧ yX5_ifYear.cls ≠ "java/lang/invoke/MethodHandle" ∧ yX5_ifYear.cls ≠ "java/lang/invoke/VarHandle" ∧ (parseMethodDescriptor yX5_ifYear.desc).map (fun d => d.parameters.length) = some 1 := by decide +kernel
abbrev rX5_ifYear : Room := { frames := 9, cells := 0, slots := 0, locals := 201 }
set_option maxHeartbeats 4000000 in
set_option maxRecDepth 100000 in
theorem c_X5_ifYear (l : Launch) (D : va_G) (cI cZ cB cJ : ClassId) (A_t : Nat) (A_t_s : Nat) (A_t_aside : Nat) (A_t_snapshot : Nat) (A_t_saved : Nat) (A_t_text : Nat) (A_t_counts : Nat) (A_t_isCut : Nat) (A_t_strength : Nat) (A_t_fails : Nat) (A_t_why : Nat) (A_t_driver : Nat) (A_t_place : Nat) (A_t_isDone : Nat) (sz : Nat) (V_t_thrown : Int32) (V_t_isKept : Int32) (V_t_savedMany : Int32) (V_t_length : Int32) (V_t_position : Int32) (V_t_isWrong : Int32) (V_t_digested : Int64) (V_t_s : Nat → Int32) (V_t_aside : Nat → Int32) (V_t_isCut : Nat → Int32) (V_t_counts : Nat → Int32) (V_t_strength : Nat → Int32) (V_t_fails : Nat → Int32) (V_t_driver : Nat → Int32) (V_t_why : Nat → Int32) (V_t_isDone : Nat → Int32) (V_t_place : Nat → Int32) (x1 : Int32) (r0 : Int32) (w1 : Int32) (w2 : Nat → Int32) (w3 : Nat → Int32) (w4 : Nat → Int32) (w5 : Nat → Int32) (w6 : Nat → Int32) (w7 : Nat → Int32) (w8 : Nat → Int32) (w9 : Nat → Int32) (w10 : Nat → Int32) (w11 : Nat → Int32) (hg : g_X5_ifYear V_t_thrown V_t_s V_t_aside V_t_isCut V_t_counts V_t_strength V_t_fails V_t_driver V_t_why V_t_isDone V_t_place x1 = some (r0, w1, w2, w3, w4, w5, w6, w7, w8, w9, w10, w11)) : Met l yX5_ifYear wsX5_ifYear rX5_ifYear (PcW D cI cZ cB cJ sz [(A_t, .inr (5, [.int V_t_thrown, .ref A_t_s, .ref A_t_aside, .ref A_t_snapshot, .int V_t_isKept, .ref A_t_saved, .int V_t_savedMany, .ref A_t_text, .int V_t_length, .ref A_t_counts, .ref A_t_isCut, .ref A_t_strength, .ref A_t_fails, .ref A_t_why, .ref A_t_driver, .ref A_t_place, .ref A_t_isDone, .int V_t_position, .int V_t_isWrong, .long V_t_digested])), (A_t_s, .inl (cI, 77, .inl V_t_s)), (A_t_aside, .inl (cI, 77, .inl V_t_aside)), (A_t_isCut, .inl (cZ, 9, .inl V_t_isCut)), (A_t_counts, .inl (cZ, 9, .inl V_t_counts)), (A_t_strength, .inl (cI, 9, .inl V_t_strength)), (A_t_fails, .inl (cZ, 9, .inl V_t_fails)), (A_t_driver, .inl (cI, 9, .inl V_t_driver)), (A_t_why, .inl (cI, 9, .inl V_t_why)), (A_t_isDone, .inl (cZ, 9, .inl V_t_isDone)), (A_t_place, .inl (cI, 9, .inl V_t_place))] [.ref A_t, .int x1]) (QWi D cI cZ cB cJ sz [(A_t, .inr (5, [.int V_t_thrown, .ref A_t_s, .ref A_t_aside, .ref A_t_snapshot, .int V_t_isKept, .ref A_t_saved, .int V_t_savedMany, .ref A_t_text, .int V_t_length, .ref A_t_counts, .ref A_t_isCut, .ref A_t_strength, .ref A_t_fails, .ref A_t_why, .ref A_t_driver, .ref A_t_place, .ref A_t_isDone, .int V_t_position, .int V_t_isWrong, .long V_t_digested])), (A_t_s, .inl (cI, 77, .inl V_t_s)), (A_t_aside, .inl (cI, 77, .inl V_t_aside)), (A_t_isCut, .inl (cZ, 9, .inl V_t_isCut)), (A_t_counts, .inl (cZ, 9, .inl V_t_counts)), (A_t_strength, .inl (cI, 9, .inl V_t_strength)), (A_t_fails, .inl (cZ, 9, .inl V_t_fails)), (A_t_driver, .inl (cI, 9, .inl V_t_driver)), (A_t_why, .inl (cI, 9, .inl V_t_why)), (A_t_isDone, .inl (cZ, 9, .inl V_t_isDone)), (A_t_place, .inl (cI, 9, .inl V_t_place))] [(A_t, .inr (5, [.int w1, .ref A_t_s, .ref A_t_aside, .ref A_t_snapshot, .int V_t_isKept, .ref A_t_saved, .int V_t_savedMany, .ref A_t_text, .int V_t_length, .ref A_t_counts, .ref A_t_isCut, .ref A_t_strength, .ref A_t_fails, .ref A_t_why, .ref A_t_driver, .ref A_t_place, .ref A_t_isDone, .int V_t_position, .int V_t_isWrong, .long V_t_digested])), (A_t_s, .inl (cI, 77, .inl w2)), (A_t_aside, .inl (cI, 77, .inl w3)), (A_t_isCut, .inl (cZ, 9, .inl w4)), (A_t_counts, .inl (cZ, 9, .inl w5)), (A_t_strength, .inl (cI, 9, .inl w6)), (A_t_fails, .inl (cZ, 9, .inl w7)), (A_t_driver, .inl (cI, 9, .inl w8)), (A_t_why, .inl (cI, 9, .inl w9)), (A_t_isDone, .inl (cZ, 9, .inl w10)), (A_t_place, .inl (cI, 9, .inl w11))] r0) 0 0 (va_A [(A_t, .inr (5, [.int V_t_thrown, .ref A_t_s, .ref A_t_aside, .ref A_t_snapshot, .int V_t_isKept, .ref A_t_saved, .int V_t_savedMany, .ref A_t_text, .int V_t_length, .ref A_t_counts, .ref A_t_isCut, .ref A_t_strength, .ref A_t_fails, .ref A_t_why, .ref A_t_driver, .ref A_t_place, .ref A_t_isDone, .int V_t_position, .int V_t_isWrong, .long V_t_digested])), (A_t_s, .inl (cI, 77, .inl V_t_s)), (A_t_aside, .inl (cI, 77, .inl V_t_aside)), (A_t_isCut, .inl (cZ, 9, .inl V_t_isCut)), (A_t_counts, .inl (cZ, 9, .inl V_t_counts)), (A_t_strength, .inl (cI, 9, .inl V_t_strength)), (A_t_fails, .inl (cZ, 9, .inl V_t_fails)), (A_t_driver, .inl (cI, 9, .inl V_t_driver)), (A_t_why, .inl (cI, 9, .inl V_t_why)), (A_t_isDone, .inl (cZ, 9, .inl V_t_isDone)), (A_t_place, .inl (cI, 9, .inl V_t_place))] sz) := by
  refine bodyWi (cc := cX5_ifYear) (maxL := 2) (lv := [(0, .ref A_t), (1, .int x1)]) (by decide) rfl (Nat.le_of_ble_eq_true rfl) rfl ?_
  intro p e s m args below meth c Q hx hb hml hown hts A hP hK hD hA hS fin ls hl
  replace hown : s.vm.findClass RX5 = some m.cls := hown
  have S : CallFix p m c cX5_ifYear 2 s args wsX5_ifYear RX5 := ⟨hx, hb, hml, hown, hts⟩
  unfold g_X5_ifYear at hg
  refine lv_aload_n hx hb dX5_ifYear_0 rfl (lv_at hl 0 rfl) ?_
  refine lv_iload_n hx hb dX5_ifYear_1 rfl (lv_at hl 1 rfl) ?_
  obtain ⟨v1, hq, hg⟩ := bind_ex hg
  refine callRSz (As := [.int x1]) (rest := [.ref A_t]) S hK hP (c_X5_isSeat l D cI cZ cB cJ x1 v1 hq) [] rfl (va_cwS 1 hts gX5_ifYear_X5_isSeat rfl rfl rfl hd_X5_isSeat ⟨Nat.le_of_ble_eq_true rfl, Nat.le_of_ble_eq_true rfl⟩) rfl hl.1 rfl (Nat.le_of_ble_eq_true rfl) dX5_ifYear_2 ⟨Nat.zero_le _, Nat.zero_le _⟩ (fun hz_v1 => ?_)
  have hJ1 : ∀ (v2 : Int32), bo v2 → ∀ (H : Heap) (locs : List Loc), va_P D vwCl [(A_t, .inr (5, [.int V_t_thrown, .ref A_t_s, .ref A_t_aside, .ref A_t_snapshot, .int V_t_isKept, .ref A_t_saved, .int V_t_savedMany, .ref A_t_text, .int V_t_length, .ref A_t_counts, .ref A_t_isCut, .ref A_t_strength, .ref A_t_fails, .ref A_t_why, .ref A_t_driver, .ref A_t_place, .ref A_t_isDone, .int V_t_position, .int V_t_isWrong, .long V_t_digested])), (A_t_s, .inl (cI, 77, .inl V_t_s)), (A_t_aside, .inl (cI, 77, .inl V_t_aside)), (A_t_isCut, .inl (cZ, 9, .inl V_t_isCut)), (A_t_counts, .inl (cZ, 9, .inl V_t_counts)), (A_t_strength, .inl (cI, 9, .inl V_t_strength)), (A_t_fails, .inl (cZ, 9, .inl V_t_fails)), (A_t_driver, .inl (cI, 9, .inl V_t_driver)), (A_t_why, .inl (cI, 9, .inl V_t_why)), (A_t_isDone, .inl (cZ, 9, .inl V_t_isDone)), (A_t_place, .inl (cI, 9, .inl V_t_place))] H → va_D A [(A_t, .inr (5, [.int V_t_thrown, .ref A_t_s, .ref A_t_aside, .ref A_t_snapshot, .int V_t_isKept, .ref A_t_saved, .int V_t_savedMany, .ref A_t_text, .int V_t_length, .ref A_t_counts, .ref A_t_isCut, .ref A_t_strength, .ref A_t_fails, .ref A_t_why, .ref A_t_driver, .ref A_t_place, .ref A_t_isDone, .int V_t_position, .int V_t_isWrong, .long V_t_digested])), (A_t_s, .inl (cI, 77, .inl V_t_s)), (A_t_aside, .inl (cI, 77, .inl V_t_aside)), (A_t_isCut, .inl (cZ, 9, .inl V_t_isCut)), (A_t_counts, .inl (cZ, 9, .inl V_t_counts)), (A_t_strength, .inl (cI, 9, .inl V_t_strength)), (A_t_fails, .inl (cZ, 9, .inl V_t_fails)), (A_t_driver, .inl (cI, 9, .inl V_t_driver)), (A_t_why, .inl (cI, 9, .inl V_t_why)), (A_t_isDone, .inl (cZ, 9, .inl V_t_isDone)), (A_t_place, .inl (cI, 9, .inl V_t_place))] → va_S A s.heap H locs → ∀ ls : Array Slot, lv_has ls 2 [(0, .ref A_t), (1, .int x1)] → g_X5_ifYear_J1 V_t_thrown V_t_s V_t_aside V_t_isCut V_t_counts V_t_strength V_t_fails V_t_driver V_t_why V_t_isDone V_t_place x1 v2 = some (r0, w1, w2, w3, w4, w5, w6, w7, w8, w9, w10, w11) → W p l e rX5_ifYear s m args below meth c H locs 0 0 Q (F0 m 13 ls [.int v2, .ref A_t]) := by
    intro v2 hz_v2 H locs hP hD hS ls hl hg
    unfold g_X5_ifYear_J1 at hg
    obtain ⟨v4, v3, hq, hg⟩ := b2_ex hg
    refine callWVz (As := [.int v2]) (rest := []) (wr := [(A_t_s, .inl (cI, 77, .inl V_t_s)), (A_t_aside, .inl (cI, 77, .inl V_t_aside)), (A_t_isCut, .inl (cZ, 9, .inl V_t_isCut)), (A_t_counts, .inl (cZ, 9, .inl V_t_counts)), (A_t_strength, .inl (cI, 9, .inl V_t_strength)), (A_t_fails, .inl (cZ, 9, .inl V_t_fails)), (A_t_driver, .inl (cI, 9, .inl V_t_driver)), (A_t_why, .inl (cI, 9, .inl V_t_why)), (A_t_isDone, .inl (cZ, 9, .inl V_t_isDone)), (A_t_place, .inl (cI, 9, .inl V_t_place))]) S hK hP hD hS hA (c_X5_holds l D cI cZ cB cJ A_t A_t_s A_t_aside A_t_snapshot A_t_saved A_t_text A_t_counts A_t_isCut A_t_strength A_t_fails A_t_why A_t_driver A_t_place A_t_isDone _ V_t_thrown V_t_isKept V_t_savedMany V_t_length V_t_position V_t_isWrong V_t_digested v2 v4 v3 hq) [0] [1, 2, 3, 4, 5, 6, 7, 8, 9, 10] rfl rfl (by decide +kernel) (by decide +kernel) (by decide +kernel) (cwV 1 hts gX5_ifYear_X5_holds rfl rfl rfl hd_X5_holds ⟨Nat.le_of_ble_eq_true rfl, Nat.le_of_ble_eq_true rfl⟩) rfl rfl rfl hl.1 rfl (Nat.le_of_ble_eq_true rfl) dX5_ifYear_13 ⟨Nat.zero_le _, Nat.zero_le _⟩ (fun hz_v4 H locs hP hD hS => ?_)
    replace hP : va_P D vwCl [(A_t_s, .inl (cI, 77, .inl V_t_s)), (A_t_aside, .inl (cI, 77, .inl V_t_aside)), (A_t_isCut, .inl (cZ, 9, .inl V_t_isCut)), (A_t_counts, .inl (cZ, 9, .inl V_t_counts)), (A_t_strength, .inl (cI, 9, .inl V_t_strength)), (A_t_fails, .inl (cZ, 9, .inl V_t_fails)), (A_t_driver, .inl (cI, 9, .inl V_t_driver)), (A_t_why, .inl (cI, 9, .inl V_t_why)), (A_t_isDone, .inl (cZ, 9, .inl V_t_isDone)), (A_t_place, .inl (cI, 9, .inl V_t_place)), (A_t, .inr (5, [.int v3, .ref A_t_s, .ref A_t_aside, .ref A_t_snapshot, .int V_t_isKept, .ref A_t_saved, .int V_t_savedMany, .ref A_t_text, .int V_t_length, .ref A_t_counts, .ref A_t_isCut, .ref A_t_strength, .ref A_t_fails, .ref A_t_why, .ref A_t_driver, .ref A_t_place, .ref A_t_isDone, .int V_t_position, .int V_t_isWrong, .long V_t_digested]))] H := hP
    replace hD : va_D A [(A_t_s, .inl (cI, 77, .inl V_t_s)), (A_t_aside, .inl (cI, 77, .inl V_t_aside)), (A_t_isCut, .inl (cZ, 9, .inl V_t_isCut)), (A_t_counts, .inl (cZ, 9, .inl V_t_counts)), (A_t_strength, .inl (cI, 9, .inl V_t_strength)), (A_t_fails, .inl (cZ, 9, .inl V_t_fails)), (A_t_driver, .inl (cI, 9, .inl V_t_driver)), (A_t_why, .inl (cI, 9, .inl V_t_why)), (A_t_isDone, .inl (cZ, 9, .inl V_t_isDone)), (A_t_place, .inl (cI, 9, .inl V_t_place)), (A_t, .inr (5, [.int v3, .ref A_t_s, .ref A_t_aside, .ref A_t_snapshot, .int V_t_isKept, .ref A_t_saved, .int V_t_savedMany, .ref A_t_text, .int V_t_length, .ref A_t_counts, .ref A_t_isCut, .ref A_t_strength, .ref A_t_fails, .ref A_t_why, .ref A_t_driver, .ref A_t_place, .ref A_t_isDone, .int V_t_position, .int V_t_isWrong, .long V_t_digested]))] := hD
    refine lv_if_eq (tgt := 27) hx hb dX5_ifYear_16 (by decide) (fun hc => ?_) (fun hc => ?_)
    · replace hg := if_yes hg hc
      refine lv_iconst (v := 0) hx hb dX5_ifYear_27 (by decide) ?_
      cases hg
      exact fin _ _ _ _ dX5_ifYear_28 (hP.sub [10, 0, 1, 2, 3, 4, 5, 6, 7, 8, 9] rfl) (hD.sub [10, 0, 1, 2, 3, 4, 5, 6, 7, 8, 9] (by decide) rfl) hS
    · replace hg := if_no hg hc
      refine lv_aload_n hx hb dX5_ifYear_19 rfl (lv_at hl 0 rfl) ?_
      refine lv_iload_n hx hb dX5_ifYear_20 rfl (lv_at hl 1 rfl) ?_
      obtain ⟨v15, f5, f6, f7, f8, f9, f10, f11, f12, f13, f14, hq, hg⟩ := b11_ex hg
      refine callWV (As := [.int x1]) (rest := []) (wr := []) S hK hP hD hS hA (c_X5_centresThen l D cI cZ cB cJ A_t A_t_s A_t_aside A_t_snapshot A_t_saved A_t_text A_t_counts A_t_isCut A_t_strength A_t_fails A_t_why A_t_driver A_t_place A_t_isDone _ v3 V_t_isKept V_t_savedMany V_t_length V_t_position V_t_isWrong V_t_digested V_t_s V_t_aside V_t_isCut V_t_counts V_t_strength V_t_fails V_t_driver V_t_why V_t_isDone V_t_place x1 v15 f5 f6 f7 f8 f9 f10 f11 f12 f13 f14 hq) [10, 0, 1, 2, 3, 4, 5, 6, 7, 8, 9] [] rfl rfl (by decide +kernel) (by decide +kernel) (by decide +kernel) (cwV 1 hts gX5_ifYear_X5_centresThen rfl rfl rfl hd_X5_centresThen ⟨Nat.le_of_ble_eq_true rfl, Nat.le_of_ble_eq_true rfl⟩) rfl rfl rfl hl.1 rfl (Nat.le_of_ble_eq_true rfl) dX5_ifYear_21 ⟨Nat.zero_le _, Nat.zero_le _⟩ (fun H locs hP hD hS => ?_)
      replace hP : va_P D vwCl [(A_t, .inr (5, [.int v3, .ref A_t_s, .ref A_t_aside, .ref A_t_snapshot, .int V_t_isKept, .ref A_t_saved, .int V_t_savedMany, .ref A_t_text, .int V_t_length, .ref A_t_counts, .ref A_t_isCut, .ref A_t_strength, .ref A_t_fails, .ref A_t_why, .ref A_t_driver, .ref A_t_place, .ref A_t_isDone, .int V_t_position, .int V_t_isWrong, .long V_t_digested])), (A_t_s, .inl (cI, 77, .inl f5)), (A_t_aside, .inl (cI, 77, .inl f6)), (A_t_isCut, .inl (cZ, 9, .inl f7)), (A_t_counts, .inl (cZ, 9, .inl f8)), (A_t_strength, .inl (cI, 9, .inl f9)), (A_t_fails, .inl (cZ, 9, .inl f10)), (A_t_driver, .inl (cI, 9, .inl f11)), (A_t_why, .inl (cI, 9, .inl f12)), (A_t_isDone, .inl (cZ, 9, .inl f13)), (A_t_place, .inl (cI, 9, .inl f14))] H := hP
      replace hD : va_D A [(A_t, .inr (5, [.int v3, .ref A_t_s, .ref A_t_aside, .ref A_t_snapshot, .int V_t_isKept, .ref A_t_saved, .int V_t_savedMany, .ref A_t_text, .int V_t_length, .ref A_t_counts, .ref A_t_isCut, .ref A_t_strength, .ref A_t_fails, .ref A_t_why, .ref A_t_driver, .ref A_t_place, .ref A_t_isDone, .int V_t_position, .int V_t_isWrong, .long V_t_digested])), (A_t_s, .inl (cI, 77, .inl f5)), (A_t_aside, .inl (cI, 77, .inl f6)), (A_t_isCut, .inl (cZ, 9, .inl f7)), (A_t_counts, .inl (cZ, 9, .inl f8)), (A_t_strength, .inl (cI, 9, .inl f9)), (A_t_fails, .inl (cZ, 9, .inl f10)), (A_t_driver, .inl (cI, 9, .inl f11)), (A_t_why, .inl (cI, 9, .inl f12)), (A_t_isDone, .inl (cZ, 9, .inl f13)), (A_t_place, .inl (cI, 9, .inl f14))] := hD
      refine lv_goto (tgt := 28) hx hb dX5_ifYear_24 (by decide) ?_
      cases hg
      exact fin _ _ _ _ dX5_ifYear_28 hP hD hS
  refine lv_if_eq (tgt := 12) hx hb dX5_ifYear_5 (by decide) (fun hc => ?_) (fun hc => ?_)
  · replace hg := if_yes hg hc
    refine lv_iconst (v := 1) hx hb dX5_ifYear_12 (by decide) ?_
    exact hJ1 _ bo_1 _ _ hP hD hS _ (lv_sub hl [0, 1] rfl) hg
  · replace hg := if_no hg hc
    refine lv_iconst (v := 0) hx hb dX5_ifYear_8 (by decide) ?_
    refine lv_goto (tgt := 13) hx hb dX5_ifYear_9 (by decide) ?_
    exact hJ1 _ bo_0 _ _ hP hD hS _ (lv_sub hl [0, 1] rfl) hg
theorem hd_X5_share : yX5_share.cls = RX5 ∧ yX5_share.cls ≠ "java/lang/invoke/MethodHandle" ∧ yX5_share.cls ≠ "java/lang/invoke/VarHandle" ∧ (parseMethodDescriptor yX5_share.desc).map (fun d => d.parameters.length) = some 0 := by decide +kernel
theorem in_X5_share_X5 : ∀ w ∈ u_ws RX5 TX5 20, w ∈ wsX5_share := fun _ h => List.mem_cons_of_mem _ (List.mem_append_right _ h)
theorem wd_X5_share_1 : Cond.fieldLink RX5 7 "FogOrdersModel" "s" "[I" ∈ wsX5_share := List.mem_of_getElem? (i := 1) rfl
abbrev rX5_share : Room := { frames := 0, cells := 0, slots := 0, locals := 0 }
set_option maxHeartbeats 4000000 in
set_option maxRecDepth 100000 in
theorem c_X5_share (l : Launch) (D : va_G) (cI cZ cB cJ : ClassId) (A_t : Nat) (A_t_s : Nat) (A_t_aside : Nat) (A_t_snapshot : Nat) (A_t_saved : Nat) (A_t_text : Nat) (A_t_counts : Nat) (A_t_isCut : Nat) (A_t_strength : Nat) (A_t_fails : Nat) (A_t_why : Nat) (A_t_driver : Nat) (A_t_place : Nat) (A_t_isDone : Nat) (V_t_thrown : Int32) (V_t_isKept : Int32) (V_t_savedMany : Int32) (V_t_length : Int32) (V_t_position : Int32) (V_t_isWrong : Int32) (V_t_digested : Int64) (V_t_s : Nat → Int32) (r0 : UInt64) (hg : g_X5_share V_t_s = some r0) : Met l yX5_share wsX5_share rX5_share (PcR D cI cZ cB cJ [(A_t, .inr (5, [.int V_t_thrown, .ref A_t_s, .ref A_t_aside, .ref A_t_snapshot, .int V_t_isKept, .ref A_t_saved, .int V_t_savedMany, .ref A_t_text, .int V_t_length, .ref A_t_counts, .ref A_t_isCut, .ref A_t_strength, .ref A_t_fails, .ref A_t_why, .ref A_t_driver, .ref A_t_place, .ref A_t_isDone, .int V_t_position, .int V_t_isWrong, .long V_t_digested])), (A_t_s, .inl (cI, 77, .inl V_t_s))] [.ref A_t]) (vp_Sd (fun r' => r' = r0)) 0 0 (fun _ => False) := by
  refine bodyRd (cc := cX5_share) (maxL := 2) (lv := [(0, .ref A_t)]) (by decide) rfl (Nat.le_of_ble_eq_true rfl) rfl ?_
  intro p e s m args below meth c Q hx hb hml hown hts hP hK fin ls hl
  replace hown : s.vm.findClass RX5 = some m.cls := hown
  have S : CallFix p m c cX5_share 2 s args wsX5_share RX5 := ⟨hx, hb, hml, hown, hts⟩
  unfold g_X5_share at hg
  refine lv_aload_n hx hb dX5_share_0 rfl (lv_at hl 0 rfl) ?_
  refine xget (ci := 5) (C := RX5) (T := TX5) (N := 20) (v := .ref A_t_s) hx hb hts in_X5_share_X5 hown hK hP 0 rfl rfl 1 (by decide) wd_X5_share_1 rfl dX5_share_1 ?_
  refine lv_iconst (v := 3) hx hb dX5_share_4 (by decide) ?_
  obtain ⟨v1, hin, hv, hg⟩ := rdA_ex hg
  refine xiald hx hb hK hP 1 rfl hin hv dX5_share_5 ?_
  refine lv_aload_n hx hb dX5_share_6 rfl (lv_at hl 0 rfl) ?_
  refine xget (ci := 5) (C := RX5) (T := TX5) (N := 20) (v := .ref A_t_s) hx hb hts in_X5_share_X5 hown hK hP 0 rfl rfl 1 (by decide) wd_X5_share_1 rfl dX5_share_7 ?_
  refine lv_iconst (v := 4) hx hb dX5_share_10 (by decide) ?_
  obtain ⟨v2, hin, hv, hg⟩ := rdA_ex hg
  refine xiald hx hb hK hP 1 rfl hin hv dX5_share_11 ?_
  refine lv_iadd hx hb dX5_share_12 ?_
  refine lv_istore_n (lv' := [(1, .int (v1 + v2)), (0, .ref A_t)]) hx hb dX5_share_13 rfl hl (by decide) rfl (fun ls hl => ?_)
  refine lv_iload_n hx hb dX5_share_14 rfl (lv_at hl 0 rfl) ?_
  have hJ1 : ∀ (v5 : UInt64), ∀ ls : Array Slot, lv_has ls 2 [] → g_X5_share_J1 v5 = some r0 → W p l e rX5_share s m args below meth c s.heap [] 0 0 Q (F0 m 32 ls [.double v5]) := by
    intro v5 ls hl hg
    unfold g_X5_share_J1 at hg
    cases hg
    exact fin _ _ dX5_share_32
  refine lv_if_ne (tgt := 22) hx hb dX5_share_15 (by decide) (fun hc => ?_) (fun hc => ?_)
  · replace hg := if_no hg hc
    refine lv_aload_n hx hb dX5_share_22 rfl (lv_at hl 1 rfl) ?_
    refine xget (ci := 5) (C := RX5) (T := TX5) (N := 20) (v := .ref A_t_s) hx hb hts in_X5_share_X5 hown hK hP 0 rfl rfl 1 (by decide) wd_X5_share_1 rfl dX5_share_23 ?_
    refine lv_iconst (v := 3) hx hb dX5_share_26 (by decide) ?_
    obtain ⟨v3, hin, hv, hg⟩ := rdA_ex hg
    refine xiald hx hb hK hP 1 rfl hin hv dX5_share_27 ?_
    refine lv_i2d hx hb dX5_share_28 ?_
    refine lv_iload_n hx hb dX5_share_29 rfl (lv_at hl 0 rfl) ?_
    refine lv_i2d hx hb dX5_share_30 ?_
    obtain ⟨v4, hin, hv, hg⟩ := ndA_ex hg
    refine xddiv hx hb hin hv dX5_share_31 ?_
    exact hJ1 _ _ (lv_sub hl [] rfl) hg
  · replace hg := if_yes hg hc
    refine lv_dconst1 hx hb dX5_share_18 ?_
    refine lv_goto (tgt := 32) hx hb dX5_share_19 (by decide) ?_
    exact hJ1 _ _ (lv_sub hl [] rfl) hg
theorem hd_X5_bitsOf : yX5_bitsOf.cls ≠ "java/lang/invoke/MethodHandle" ∧ yX5_bitsOf.cls ≠ "java/lang/invoke/VarHandle" ∧ (parseMethodDescriptor yX5_bitsOf.desc).map (fun d => d.parameters.length) = some 1 := by decide +kernel
theorem wd_X5_bitsOf_1 : Cond.constantLong RX5 245 (1023) ∈ wsX5_bitsOf := List.mem_of_getElem? (i := 1) rfl
theorem wd_X5_bitsOf_3 : Cond.constantLong RX5 249 (4503599627370496) ∈ wsX5_bitsOf := List.mem_of_getElem? (i := 3) rfl
theorem wd_X5_bitsOf_4 : Cond.constantDouble RX5 251 (4841369599423283200) ∈ wsX5_bitsOf := List.mem_of_getElem? (i := 4) rfl
theorem wd_X5_bitsOf_2 : Cond.constantDouble RX5 247 (4611686018427387904) ∈ wsX5_bitsOf := List.mem_of_getElem? (i := 2) rfl
abbrev rX5_bitsOf : Room := { frames := 0, cells := 0, slots := 0, locals := 0 }
set_option maxHeartbeats 4000000 in
set_option maxRecDepth 100000 in
theorem c_X5_bitsOf (l : Launch) (D : va_G) (cI cZ cB cJ : ClassId) (x1 : UInt64) (r0 : Int64) (hg : g_X5_bitsOf x1 = some r0) : Met l yX5_bitsOf wsX5_bitsOf rX5_bitsOf (PcR D cI cZ cB cJ [] [.double x1]) (vp_Sl (fun r' => r' = r0)) 0 0 (fun _ => False) := by
  refine bodyRl (cc := cX5_bitsOf) (maxL := 6) (lv := [(0, .double x1)]) (by decide) rfl (Nat.le_of_ble_eq_true rfl) rfl ?_
  intro p e s m args below meth c Q hx hb hml hown hts hP hK fin ls hl
  replace hown : s.vm.findClass RX5 = some m.cls := hown
  have S : CallFix p m c cX5_bitsOf 6 s args wsX5_bitsOf RX5 := ⟨hx, hb, hml, hown, hts⟩
  unfold g_X5_bitsOf at hg
  refine lv_dload_n hx hb dX5_bitsOf_0 rfl (lv_at hl 0 rfl) ?_
  refine lv_dconst0 hx hb dX5_bitsOf_1 ?_
  refine lv_dcmp hx hb dX5_bitsOf_2 ?_
  refine lv_if_ne (tgt := 8) hx hb dX5_bitsOf_3 (by decide) (fun hc => ?_) (fun hc => ?_)
  · replace hg := if_no hg hc
    refine lv_ldc2 hx hb hown (hts _ wd_X5_bitsOf_1) dX5_bitsOf_8 ?_
    refine lv_lstore_n (lv' := [(2, .long 1023), (0, .double x1)]) hx hb dX5_bitsOf_11 rfl hl (by decide) rfl (fun ls hl => ?_)
    refine lv_dload_n hx hb dX5_bitsOf_12 rfl (lv_at hl 1 rfl) ?_
    refine lv_dstore (lv' := [(4, .double x1), (2, .long 1023), (0, .double x1)]) hx hb dX5_bitsOf_13 hl (by decide) rfl (fun ls hl => ?_)
    obtain ⟨v4, v5, hL, hg⟩ := b2_ex hg
    have kx : ∀ ls : Array Slot, lv_has ls 6 [(4, .double v5), (2, .long v4)] → W p l e rX5_bitsOf s m args below meth c s.heap [] 0 0 Q (F0 m 37 ls []) := by
      intro ls hl
      refine lv_lload_n hx hb dX5_bitsOf_37 rfl (lv_at hl 1 rfl) ?_
      refine lv_ldc2 hx hb hown (hts _ wd_X5_bitsOf_3) dX5_bitsOf_38 ?_
      refine lv_lmul hx hb dX5_bitsOf_41 ?_
      refine lv_dload hx hb dX5_bitsOf_42 (lv_at hl 0 rfl) ?_
      refine lv_dconst1 hx hb dX5_bitsOf_44 ?_
      obtain ⟨v6, hin, hv, hg⟩ := ndA_ex hg
      refine xdsub hx hb hin hv dX5_bitsOf_45 ?_
      refine lv_ldc2d hx hb hown (hts _ wd_X5_bitsOf_4) dX5_bitsOf_46 ?_
      obtain ⟨v7, hin, hv, hg⟩ := ndA_ex hg
      refine xdmul hx hb hin hv dX5_bitsOf_49 ?_
      refine lv_d2l hx hb dX5_bitsOf_50 ?_
      refine lv_ladd hx hb dX5_bitsOf_51 ?_
      cases hg
      exact fin _ _ dX5_bitsOf_52
    have L : ∀ (nf : Nat) (v1 : Int64) (v2 : UInt64), ∀ ls : Array Slot, lv_has ls 6 [(4, .double v2), (2, .long v1)] → g_X5_bitsOf_L1 nf v1 v2 = some (v4, v5) → W p l e rX5_bitsOf s m args below meth c s.heap [] 0 0 Q (F0 m 15 ls []) := by
      intro nf
      induction nf with
      | zero =>
        intro v1 v2 ls hl hg
        exact no_some hg
      | succ nf ih =>
        intro v1 v2 ls hl hg
        rw [g_X5_bitsOf_L1] at hg
        refine lv_dload hx hb dX5_bitsOf_15 (lv_at hl 0 rfl) ?_
        refine lv_dconst1 hx hb dX5_bitsOf_17 ?_
        refine lv_dcmp hx hb dX5_bitsOf_18 ?_
        refine lv_if_ge (tgt := 37) hx hb dX5_bitsOf_19 (by decide) (fun hc => ?_) (fun hc => ?_)
        · replace hg := if_yes hg hc
          cases hg
          exact kx _ (lv_sub hl [0, 1] rfl)
        · replace hg := if_no hg hc
          refine lv_dload hx hb dX5_bitsOf_22 (lv_at hl 0 rfl) ?_
          refine lv_ldc2d hx hb hown (hts _ wd_X5_bitsOf_2) dX5_bitsOf_24 ?_
          obtain ⟨v3, hin, hv, hg⟩ := ndA_ex hg
          refine xdmul hx hb hin hv dX5_bitsOf_27 ?_
          refine lv_dstore (lv' := [(4, .double v3), (2, .long v1)]) hx hb dX5_bitsOf_28 hl (by decide) rfl (fun ls hl => ?_)
          refine lv_lload_n hx hb dX5_bitsOf_30 rfl (lv_at hl 1 rfl) ?_
          refine lv_lconst (v := 1) hx hb dX5_bitsOf_31 (by decide) ?_
          refine lv_lsub hx hb dX5_bitsOf_32 ?_
          refine lv_lstore_n (lv' := [(2, .long (v1 - 1)), (4, .double v3)]) hx hb dX5_bitsOf_33 rfl hl (by decide) rfl (fun ls hl => ?_)
          refine lv_goto (tgt := 15) hx hb dX5_bitsOf_34 (by decide) ?_
          exact ih _ _ _ (lv_sub hl [1, 0] rfl) hg
    exact L FU _ _ _ (lv_sub hl [0, 1] rfl) hL
  · replace hg := if_yes hg hc
    refine lv_lconst (v := 0) hx hb dX5_bitsOf_6 (by decide) ?_
    cases hg
    exact fin _ _ dX5_bitsOf_7
theorem hd_X5_digestOne : yX5_digestOne.cls = RX5 ∧ yX5_digestOne.cls ≠ "java/lang/invoke/MethodHandle" ∧ yX5_digestOne.cls ≠ "java/lang/invoke/VarHandle" ∧ (parseMethodDescriptor yX5_digestOne.desc).map (fun d => d.parameters.length) = some 1 := by decide +kernel
theorem wd_X5_digestOne_1 : Cond.constantLong RX5 253 (31) ∈ wsX5_digestOne := List.mem_of_getElem? (i := 1) rfl
theorem in_X5_digestOne_X5 : ∀ w ∈ u_ws RX5 TX5 20, w ∈ wsX5_digestOne := fun _ h => List.mem_cons_of_mem _ (List.mem_append_right _ h)
theorem wd_X5_digestOne_2 : Cond.fieldLink RX5 255 "FogOrdersModel" "digested" "J" ∈ wsX5_digestOne := List.mem_of_getElem? (i := 2) rfl
abbrev rX5_digestOne : Room := { frames := 0, cells := 0, slots := 0, locals := 0 }
set_option maxHeartbeats 4000000 in
set_option maxRecDepth 100000 in
theorem c_X5_digestOne (l : Launch) (D : va_G) (cI cZ cB cJ : ClassId) (A_t : Nat) (A_t_s : Nat) (A_t_aside : Nat) (A_t_snapshot : Nat) (A_t_saved : Nat) (A_t_text : Nat) (A_t_counts : Nat) (A_t_isCut : Nat) (A_t_strength : Nat) (A_t_fails : Nat) (A_t_why : Nat) (A_t_driver : Nat) (A_t_place : Nat) (A_t_isDone : Nat) (sz : Nat) (V_t_thrown : Int32) (V_t_isKept : Int32) (V_t_savedMany : Int32) (V_t_length : Int32) (V_t_position : Int32) (V_t_isWrong : Int32) (V_t_digested : Int64) (x1 : Int64) (w1 : Int64) (hg : g_X5_digestOne V_t_digested x1 = some w1) : Met l yX5_digestOne wsX5_digestOne rX5_digestOne (PcW D cI cZ cB cJ sz [(A_t, .inr (5, [.int V_t_thrown, .ref A_t_s, .ref A_t_aside, .ref A_t_snapshot, .int V_t_isKept, .ref A_t_saved, .int V_t_savedMany, .ref A_t_text, .int V_t_length, .ref A_t_counts, .ref A_t_isCut, .ref A_t_strength, .ref A_t_fails, .ref A_t_why, .ref A_t_driver, .ref A_t_place, .ref A_t_isDone, .int V_t_position, .int V_t_isWrong, .long V_t_digested]))] [.ref A_t, .long x1]) (QWv D cI cZ cB cJ sz [(A_t, .inr (5, [.int V_t_thrown, .ref A_t_s, .ref A_t_aside, .ref A_t_snapshot, .int V_t_isKept, .ref A_t_saved, .int V_t_savedMany, .ref A_t_text, .int V_t_length, .ref A_t_counts, .ref A_t_isCut, .ref A_t_strength, .ref A_t_fails, .ref A_t_why, .ref A_t_driver, .ref A_t_place, .ref A_t_isDone, .int V_t_position, .int V_t_isWrong, .long V_t_digested]))] [(A_t, .inr (5, [.int V_t_thrown, .ref A_t_s, .ref A_t_aside, .ref A_t_snapshot, .int V_t_isKept, .ref A_t_saved, .int V_t_savedMany, .ref A_t_text, .int V_t_length, .ref A_t_counts, .ref A_t_isCut, .ref A_t_strength, .ref A_t_fails, .ref A_t_why, .ref A_t_driver, .ref A_t_place, .ref A_t_isDone, .int V_t_position, .int V_t_isWrong, .long w1]))]) 0 0 (va_A [(A_t, .inr (5, [.int V_t_thrown, .ref A_t_s, .ref A_t_aside, .ref A_t_snapshot, .int V_t_isKept, .ref A_t_saved, .int V_t_savedMany, .ref A_t_text, .int V_t_length, .ref A_t_counts, .ref A_t_isCut, .ref A_t_strength, .ref A_t_fails, .ref A_t_why, .ref A_t_driver, .ref A_t_place, .ref A_t_isDone, .int V_t_position, .int V_t_isWrong, .long V_t_digested]))] sz) := by
  refine bodyWv (cc := cX5_digestOne) (maxL := 3) (lv := [(0, .ref A_t), (1, .long x1)]) (by decide) rfl (Nat.le_of_ble_eq_true rfl) rfl ?_
  intro p e s m args below meth c Q hx hb hml hown hts A hP hK hD hA hS fin ls hl
  replace hown : s.vm.findClass RX5 = some m.cls := hown
  have S : CallFix p m c cX5_digestOne 3 s args wsX5_digestOne RX5 := ⟨hx, hb, hml, hown, hts⟩
  unfold g_X5_digestOne at hg
  refine lv_aload_n hx hb dX5_digestOne_0 rfl (lv_at hl 0 rfl) ?_
  refine lv_ldc2 hx hb hown (hts _ wd_X5_digestOne_1) dX5_digestOne_1 ?_
  refine lv_aload_n hx hb dX5_digestOne_4 rfl (lv_at hl 0 rfl) ?_
  refine xget (ci := 5) (C := RX5) (T := TX5) (N := 20) (v := .long V_t_digested) hx hb hts in_X5_digestOne_X5 hown hK hP 0 rfl rfl 19 (by decide) wd_X5_digestOne_2 rfl dX5_digestOne_5 ?_
  refine lv_lmul hx hb dX5_digestOne_8 ?_
  refine lv_lload_n hx hb dX5_digestOne_9 rfl (lv_at hl 1 rfl) ?_
  refine lv_ladd hx hb dX5_digestOne_10 ?_
  refine xput (ci := 5) (C := RX5) (T := TX5) (N := 20) (ty := .long) (v := .long ((31 * V_t_digested) + x1)) (ws2 := [(A_t, .inr (5, [.int V_t_thrown, .ref A_t_s, .ref A_t_aside, .ref A_t_snapshot, .int V_t_isKept, .ref A_t_saved, .int V_t_savedMany, .ref A_t_text, .int V_t_length, .ref A_t_counts, .ref A_t_isCut, .ref A_t_strength, .ref A_t_fails, .ref A_t_why, .ref A_t_driver, .ref A_t_place, .ref A_t_isDone, .int V_t_position, .int V_t_isWrong, .long ((31 * V_t_digested) + x1)]))]) hx hb hts in_X5_digestOne_X5 tyX5 tyX5_ok nmX5 hown hK hP hD hS 0 rfl rfl 19 (by decide) wd_X5_digestOne_2 rfl (by decide +kernel) rfl rfl (Nat.le_of_ble_eq_true rfl) rfl dX5_digestOne_11 (fun H locs hP hD hS => ?_)
  cases hg
  exact fin _ _ _ _ dX5_digestOne_14 hP hD hS
