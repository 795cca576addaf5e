theorem hd_X5_isTaken : yX5_isTaken.cls = RX5 ∧ yX5_isTaken.cls ≠ "java/lang/invoke/MethodHandle" ∧ yX5_isTaken.cls ≠ "java/lang/invoke/VarHandle" ∧ (parseMethodDescriptor yX5_isTaken.desc).map (fun d => d.parameters.length) = some 1 := by decide +kernel
theorem in_X5_isTaken_X5 : ∀ w ∈ u_ws RX5 TX5 20, w ∈ wsX5_isTaken := fun _ h => List.mem_cons_of_mem _ (List.mem_append_right _ h)
theorem wd_X5_isTaken_1 : Cond.fieldLink RX5 7 "FogOrdersModel" "s" "[I" ∈ wsX5_isTaken := List.mem_of_getElem? (i := 1) rfl
theorem wd_X5_isTaken_2 : Cond.fieldLink RX5 44 "FogOrdersModel" "place" "[I" ∈ wsX5_isTaken := List.mem_of_getElem? (i := 2) rfl
theorem wd_X5_isTaken_3 : Cond.fieldLink RX5 35 "FogOrdersModel" "fails" "[Z" ∈ wsX5_isTaken := List.mem_of_getElem? (i := 3) rfl
theorem wd_X5_isTaken_4 : Cond.fieldLink RX5 38 "FogOrdersModel" "why" "[I" ∈ wsX5_isTaken := List.mem_of_getElem? (i := 4) rfl
abbrev rX5_isTaken : Room := { frames := 2, cells := 0, slots := 0, locals := 43 }
set_option maxHeartbeats 4000000 in
set_option maxRecDepth 100000 in
theorem c_X5_isTaken (l : Launch) (D : va_G) (cI cZ cB cJ : ClassId) (A_t : Nat) (A_t_s : Nat) (A_t_aside : Nat) (A_t_snapshot : Nat) (A_t_saved : Nat) (A_t_text : Nat) (A_t_counts : Nat) (A_t_isCut : Nat) (A_t_strength : Nat) (A_t_fails : Nat) (A_t_why : Nat) (A_t_driver : Nat) (A_t_place : Nat) (A_t_isDone : Nat) (V_t_thrown : Int32) (V_t_isKept : Int32) (V_t_savedMany : Int32) (V_t_length : Int32) (V_t_position : Int32) (V_t_isWrong : Int32) (V_t_digested : Int64) (V_t_s : Nat → Int32) (V_t_place : Nat → Int32) (V_t_fails : Nat → Int32) (V_t_why : Nat → Int32) (x1 : Int32) (r0 : Int32) (hg : g_X5_isTaken V_t_s V_t_place V_t_fails V_t_why x1 = some r0) : Met l yX5_isTaken wsX5_isTaken rX5_isTaken (PcR D cI cZ cB cJ [(A_t, .inr (5, [.int V_t_thrown, .ref A_t_s, .ref A_t_aside, .ref A_t_snapshot, .int V_t_isKept, .ref A_t_saved, .int V_t_savedMany, .ref A_t_text, .int V_t_length, .ref A_t_counts, .ref A_t_isCut, .ref A_t_strength, .ref A_t_fails, .ref A_t_why, .ref A_t_driver, .ref A_t_place, .ref A_t_isDone, .int V_t_position, .int V_t_isWrong, .long V_t_digested])), (A_t_s, .inl (cI, 77, .inl V_t_s)), (A_t_place, .inl (cI, 9, .inl V_t_place)), (A_t_fails, .inl (cZ, 9, .inl V_t_fails)), (A_t_why, .inl (cI, 9, .inl V_t_why))] [.ref A_t, .int x1]) (vp_Si (fun r' => r' = r0 ∧ bo r0)) 0 0 (fun _ => False) := by
  refine bodyRz (cc := cX5_isTaken) (maxL := 4) (lv := [(0, .ref A_t), (1, .int x1)]) (by decide) rfl (Nat.le_of_ble_eq_true rfl) rfl ?_
  intro p e s m args below meth c Q hx hb hml hown hts hP hK fin ls hl
  replace hown : s.vm.findClass RX5 = some m.cls := hown
  have S : CallFix p m c cX5_isTaken 4 s args wsX5_isTaken RX5 := ⟨hx, hb, hml, hown, hts⟩
  unfold g_X5_isTaken at hg
  refine lv_iconst (v := 0) hx hb dX5_isTaken_0 (by decide) ?_
  refine lv_istore_n (lv' := [(2, .int 0), (0, .ref A_t), (1, .int x1)]) hx hb dX5_isTaken_1 rfl hl (by decide) rfl (fun ls hl => ?_)
  refine lv_iconst (v := 0) hx hb dX5_isTaken_2 (by decide) ?_
  refine lv_istore_n (lv' := [(3, .int 0), (2, .int 0), (0, .ref A_t), (1, .int x1)]) hx hb dX5_isTaken_3 rfl hl (by decide) rfl (fun ls hl => ?_)
  obtain ⟨v8, hL, hg⟩ := bind_ex hg
  have kx : bo v8 → ∀ ls : Array Slot, lv_has ls 4 [(2, .int v8)] → W p l e rX5_isTaken s m args below meth c s.heap [] 0 0 Q (F0 m 70 ls []) := by
    intro hz_v8 ls hl
    refine lv_iload_n hx hb dX5_isTaken_70 rfl (lv_at hl 0 rfl) ?_
    cases hg
    exact fin _ _ hz_v8 dX5_isTaken_71
  have L : ∀ (nf : Nat) (v1 : Int32) (v2 : Int32), bo v1 → ∀ ls : Array Slot, lv_has ls 4 [(3, .int v2), (2, .int v1), (0, .ref A_t), (1, .int x1)] → g_X5_isTaken_L1 V_t_s V_t_place x1 V_t_fails V_t_why nf v1 v2 = some v8 → W p l e rX5_isTaken s m args below meth c s.heap [] 0 0 Q (F0 m 4 ls []) := by
    intro nf
    induction nf with
    | zero =>
      intro v1 v2 hz_v1 ls hl hg
      exact no_some hg
    | succ nf ih =>
      intro v1 v2 hz_v1 ls hl hg
      rw [g_X5_isTaken_L1] at hg
      refine lv_iload_n hx hb dX5_isTaken_4 rfl (lv_at hl 0 rfl) ?_
      refine lv_aload_n hx hb dX5_isTaken_5 rfl (lv_at hl 2 rfl) ?_
      refine xget (ci := 5) (C := RX5) (T := TX5) (N := 20) (v := .ref A_t_s) hx hb hts in_X5_isTaken_X5 hown hK hP 0 rfl rfl 1 (by decide) wd_X5_isTaken_1 rfl dX5_isTaken_6 ?_
      refine lv_bipush (v := 9) hx hb dX5_isTaken_9 (by decide) ?_
      obtain ⟨v3, hin, hv, hg⟩ := rdA_ex hg
      refine xiald hx hb hK hP 1 rfl hin hv dX5_isTaken_11 ?_
      refine lv_icmp_ge (tgt := 70) hx hb dX5_isTaken_12 (by decide) (fun hc => ?_) (fun hc => ?_)
      · replace hg := if_yes hg hc
        cases hg
        exact kx hz_v1 _ (lv_sub hl [1] rfl)
      · replace hg := if_no hg hc
        refine lv_iload_n hx hb dX5_isTaken_15 rfl (lv_at hl 1 rfl) ?_
        refine lv_if_ne (tgt := 58) hx hb dX5_isTaken_16 (by decide) (fun hc => ?_) (fun hc => ?_)
        · replace hg := if_no hg hc
          refine lv_iconst (v := 1) hx hb dX5_isTaken_58 (by decide) ?_
          refine lv_goto (tgt := 63) hx hb dX5_isTaken_59 (by decide) ?_
          refine lv_istore_n (lv' := [(2, .int 1), (3, .int v2), (0, .ref A_t), (1, .int x1)]) hx hb dX5_isTaken_63 rfl hl (by decide) rfl (fun ls hl => ?_)
          refine lv_iinc (v := (v2 + 1)) (lv' := [(3, .int (v2 + 1)), (2, .int 1), (0, .ref A_t), (1, .int x1)]) hx hb dX5_isTaken_64 hl (k := 1) rfl rfl (by decide) rfl (fun ls hl => ?_)
          refine lv_goto (tgt := 4) hx hb dX5_isTaken_67 (by decide) ?_
          exact ih _ _ bo_1 _ (lv_sub hl [0, 1, 2, 3] rfl) hg
        · replace hg := if_yes hg hc
          refine lv_aload_n hx hb dX5_isTaken_19 rfl (lv_at hl 2 rfl) ?_
          refine xget (ci := 5) (C := RX5) (T := TX5) (N := 20) (v := .ref A_t_place) hx hb hts in_X5_isTaken_X5 hown hK hP 0 rfl rfl 15 (by decide) wd_X5_isTaken_2 rfl dX5_isTaken_20 ?_
          refine lv_iload_n hx hb dX5_isTaken_23 rfl (lv_at hl 0 rfl) ?_
          obtain ⟨v4, hin, hv, hg⟩ := rdA_ex hg
          refine xiald hx hb hK hP 2 rfl hin hv dX5_isTaken_24 ?_
          refine lv_iload_n hx hb dX5_isTaken_25 rfl (lv_at hl 3 rfl) ?_
          refine lv_icmp_eq (tgt := 58) hx hb dX5_isTaken_26 (by decide) (fun hc => ?_) (fun hc => ?_)
          · replace hg := if_yes hg hc
            refine lv_iconst (v := 1) hx hb dX5_isTaken_58 (by decide) ?_
            refine lv_goto (tgt := 63) hx hb dX5_isTaken_59 (by decide) ?_
            refine lv_istore_n (lv' := [(2, .int 1), (3, .int v2), (0, .ref A_t), (1, .int x1)]) hx hb dX5_isTaken_63 rfl hl (by decide) rfl (fun ls hl => ?_)
            refine lv_iinc (v := (v2 + 1)) (lv' := [(3, .int (v2 + 1)), (2, .int 1), (0, .ref A_t), (1, .int x1)]) hx hb dX5_isTaken_64 hl (k := 1) rfl rfl (by decide) rfl (fun ls hl => ?_)
            refine lv_goto (tgt := 4) hx hb dX5_isTaken_67 (by decide) ?_
            exact ih _ _ bo_1 _ (lv_sub hl [0, 1, 2, 3] rfl) hg
          · replace hg := if_no hg hc
            refine lv_aload_n hx hb dX5_isTaken_29 rfl (lv_at hl 2 rfl) ?_
            refine xget (ci := 5) (C := RX5) (T := TX5) (N := 20) (v := .ref A_t_fails) hx hb hts in_X5_isTaken_X5 hown hK hP 0 rfl rfl 12 (by decide) wd_X5_isTaken_3 rfl dX5_isTaken_30 ?_
            refine lv_iload_n hx hb dX5_isTaken_33 rfl (lv_at hl 0 rfl) ?_
            obtain ⟨v5, hin, hv, hg⟩ := rdA_ex hg
            refine xzald hx hb hK hP 3 rfl hin hv dX5_isTaken_34 ?_
            refine lv_if_eq (tgt := 62) hx hb dX5_isTaken_35 (by decide) (fun hc => ?_) (fun hc => ?_)
            · replace hg := if_yes hg hc
              refine lv_iconst (v := 0) hx hb dX5_isTaken_62 (by decide) ?_
              refine lv_istore_n (lv' := [(2, .int 0), (3, .int v2), (0, .ref A_t), (1, .int x1)]) hx hb dX5_isTaken_63 rfl hl (by decide) rfl (fun ls hl => ?_)
              refine lv_iinc (v := (v2 + 1)) (lv' := [(3, .int (v2 + 1)), (2, .int 0), (0, .ref A_t), (1, .int x1)]) hx hb dX5_isTaken_64 hl (k := 1) rfl rfl (by decide) rfl (fun ls hl => ?_)
              refine lv_goto (tgt := 4) hx hb dX5_isTaken_67 (by decide) ?_
              exact ih _ _ bo_0 _ (lv_sub hl [0, 1, 2, 3] rfl) hg
            · replace hg := if_no hg hc
              refine lv_aload_n hx hb dX5_isTaken_38 rfl (lv_at hl 2 rfl) ?_
              refine xget (ci := 5) (C := RX5) (T := TX5) (N := 20) (v := .ref A_t_why) hx hb hts in_X5_isTaken_X5 hown hK hP 0 rfl rfl 13 (by decide) wd_X5_isTaken_4 rfl dX5_isTaken_39 ?_
              refine lv_iload_n hx hb dX5_isTaken_42 rfl (lv_at hl 0 rfl) ?_
              obtain ⟨v6, hin, hv, hg⟩ := rdA_ex hg
              refine xiald hx hb hK hP 4 rfl hin hv dX5_isTaken_43 ?_
              refine lv_iconst (v := 1) hx hb dX5_isTaken_44 (by decide) ?_
              refine lv_icmp_ne (tgt := 62) hx hb dX5_isTaken_45 (by decide) (fun hc => ?_) (fun hc => ?_)
              · replace hg := if_no hg hc
                refine lv_iconst (v := 0) hx hb dX5_isTaken_62 (by decide) ?_
                refine lv_istore_n (lv' := [(2, .int 0), (3, .int v2), (0, .ref A_t), (1, .int x1)]) hx hb dX5_isTaken_63 rfl hl (by decide) rfl (fun ls hl => ?_)
                refine lv_iinc (v := (v2 + 1)) (lv' := [(3, .int (v2 + 1)), (2, .int 0), (0, .ref A_t), (1, .int x1)]) hx hb dX5_isTaken_64 hl (k := 1) rfl rfl (by decide) rfl (fun ls hl => ?_)
                refine lv_goto (tgt := 4) hx hb dX5_isTaken_67 (by decide) ?_
                exact ih _ _ bo_0 _ (lv_sub hl [0, 1, 2, 3] rfl) hg
              · replace hg := if_yes hg hc
                refine lv_aload_n hx hb dX5_isTaken_48 rfl (lv_at hl 2 rfl) ?_
                refine lv_iload_n hx hb dX5_isTaken_49 rfl (lv_at hl 0 rfl) ?_
                refine lv_iconst (v := 3) hx hb dX5_isTaken_50 (by decide) ?_
                obtain ⟨v7, hq, hg⟩ := bind_ex hg
                refine callRVi (As := [.int v2, .int 3]) (rest := []) S hK hP (c_X5_of l D cI cZ cB cJ A_t A_t_s A_t_aside A_t_snapshot A_t_saved A_t_text A_t_counts A_t_isCut A_t_strength A_t_fails A_t_why A_t_driver A_t_place A_t_isDone V_t_thrown V_t_isKept V_t_savedMany V_t_length V_t_position V_t_isWrong V_t_digested V_t_s v2 3 v7 hq) [0, 1] rfl (cwV 2 hts gX5_isTaken_X5_of rfl rfl rfl hd_X5_of ⟨Nat.le_of_ble_eq_true rfl, Nat.le_of_ble_eq_true rfl⟩) rfl rfl rfl hl.1 rfl (Nat.le_of_ble_eq_true rfl) dX5_isTaken_51 ⟨Nat.zero_le _, Nat.zero_le _⟩ ?_
                refine lv_iload_n hx hb dX5_isTaken_54 rfl (lv_at hl 3 rfl) ?_
                refine lv_icmp_ne (tgt := 62) hx hb dX5_isTaken_55 (by decide) (fun hc => ?_) (fun hc => ?_)
                · replace hg := if_no hg hc
                  refine lv_iconst (v := 0) hx hb dX5_isTaken_62 (by decide) ?_
                  refine lv_istore_n (lv' := [(2, .int 0), (3, .int v2), (0, .ref A_t), (1, .int x1)]) hx hb dX5_isTaken_63 rfl hl (by decide) rfl (fun ls hl => ?_)
                  refine lv_iinc (v := (v2 + 1)) (lv' := [(3, .int (v2 + 1)), (2, .int 0), (0, .ref A_t), (1, .int x1)]) hx hb dX5_isTaken_64 hl (k := 1) rfl rfl (by decide) rfl (fun ls hl => ?_)
                  refine lv_goto (tgt := 4) hx hb dX5_isTaken_67 (by decide) ?_
                  exact ih _ _ bo_0 _ (lv_sub hl [0, 1, 2, 3] rfl) hg
                · replace hg := if_yes hg hc
                  refine lv_iconst (v := 1) hx hb dX5_isTaken_58 (by decide) ?_
                  refine lv_goto (tgt := 63) hx hb dX5_isTaken_59 (by decide) ?_
                  refine lv_istore_n (lv' := [(2, .int 1), (3, .int v2), (0, .ref A_t), (1, .int x1)]) hx hb dX5_isTaken_63 rfl hl (by decide) rfl (fun ls hl => ?_)
                  refine lv_iinc (v := (v2 + 1)) (lv' := [(3, .int (v2 + 1)), (2, .int 1), (0, .ref A_t), (1, .int x1)]) hx hb dX5_isTaken_64 hl (k := 1) rfl rfl (by decide) rfl (fun ls hl => ?_)
                  refine lv_goto (tgt := 4) hx hb dX5_isTaken_67 (by decide) ?_
                  exact ih _ _ bo_1 _ (lv_sub hl [0, 1, 2, 3] rfl) hg
  exact L FU _ _ bo_0 _ (lv_sub hl [0, 1, 2, 3] rfl) hL
theorem hd_X5_retreat : yX5_retreat.cls = RX5 ∧ yX5_retreat.cls ≠ "java/lang/invoke/MethodHandle" ∧ yX5_retreat.cls ≠ "java/lang/invoke/VarHandle" ∧ (parseMethodDescriptor yX5_retreat.desc).map (fun d => d.parameters.length) = some 1 := by decide +kernel
theorem in_X5_retreat_X5 : ∀ w ∈ u_ws RX5 TX5 20, w ∈ wsX5_retreat := fun _ h => List.mem_cons_of_mem _ (List.mem_append_right _ h)
theorem wd_X5_retreat_1 : Cond.fieldLink RX5 41 "FogOrdersModel" "driver" "[I" ∈ wsX5_retreat := List.mem_of_getElem? (i := 1) rfl
abbrev rX5_retreat : Room := { frames := 3, cells := 0, slots := 0, locals := 66 }
set_option maxHeartbeats 4000000 in
set_option maxRecDepth 100000 in
theorem c_X5_retreat (l : Launch) (D : va_G) (cI cZ cB cJ : ClassId) (A_t : Nat) (A_t_s : Nat) (A_t_aside : Nat) (A_t_snapshot : Nat) (A_t_saved : Nat) (A_t_text : Nat) (A_t_counts : Nat) (A_t_isCut : Nat) (A_t_strength : Nat) (A_t_fails : Nat) (A_t_why : Nat) (A_t_driver : Nat) (A_t_place : Nat) (A_t_isDone : Nat) (V_t_thrown : Int32) (V_t_isKept : Int32) (V_t_savedMany : Int32) (V_t_length : Int32) (V_t_position : Int32) (V_t_isWrong : Int32) (V_t_digested : Int64) (V_t_s : Nat → Int32) (V_t_place : Nat → Int32) (V_t_fails : Nat → Int32) (V_t_why : Nat → Int32) (V_t_driver : Nat → Int32) (x1 : Int32) (r0 : Int32) (hg : g_X5_retreat V_t_s V_t_place V_t_fails V_t_why V_t_driver x1 = some r0) : Met l yX5_retreat wsX5_retreat rX5_retreat (PcR D cI cZ cB cJ [(A_t, .inr (5, [.int V_t_thrown, .ref A_t_s, .ref A_t_aside, .ref A_t_snapshot, .int V_t_isKept, .ref A_t_saved, .int V_t_savedMany, .ref A_t_text, .int V_t_length, .ref A_t_counts, .ref A_t_isCut, .ref A_t_strength, .ref A_t_fails, .ref A_t_why, .ref A_t_driver, .ref A_t_place, .ref A_t_isDone, .int V_t_position, .int V_t_isWrong, .long V_t_digested])), (A_t_s, .inl (cI, 77, .inl V_t_s)), (A_t_place, .inl (cI, 9, .inl V_t_place)), (A_t_fails, .inl (cZ, 9, .inl V_t_fails)), (A_t_why, .inl (cI, 9, .inl V_t_why)), (A_t_driver, .inl (cI, 9, .inl V_t_driver))] [.ref A_t, .int x1]) (vp_Si (fun r' => r' = r0 ∧ True)) 0 0 (fun _ => False) := by
  refine bodyRi (cc := cX5_retreat) (maxL := 5) (lv := [(0, .ref A_t), (1, .int x1)]) (by decide) rfl (Nat.le_of_ble_eq_true rfl) rfl ?_
  intro p e s m args below meth c Q hx hb hml hown hts hP hK fin ls hl
  replace hown : s.vm.findClass RX5 = some m.cls := hown
  have S : CallFix p m c cX5_retreat 5 s args wsX5_retreat RX5 := ⟨hx, hb, hml, hown, hts⟩
  unfold g_X5_retreat at hg
  refine lv_iconst (v := (-1)) hx hb dX5_retreat_0 (by decide) ?_
  refine lv_istore_n (lv' := [(2, .int (-1)), (0, .ref A_t), (1, .int x1)]) hx hb dX5_retreat_1 rfl hl (by decide) rfl (fun ls hl => ?_)
  refine lv_bipush (v := 11) hx hb dX5_retreat_2 (by decide) ?_
  refine lv_istore_n (lv' := [(3, .int 11), (2, .int (-1)), (0, .ref A_t), (1, .int x1)]) hx hb dX5_retreat_4 rfl hl (by decide) rfl (fun ls hl => ?_)
  obtain ⟨v9, hL, hg⟩ := bind_ex hg
  have kx : ∀ ls : Array Slot, lv_has ls 5 [(2, .int v9)] → W p l e rX5_retreat s m args below meth c s.heap [] 0 0 Q (F0 m 69 ls []) := by
    intro ls hl
    refine lv_iload_n hx hb dX5_retreat_69 rfl (lv_at hl 0 rfl) ?_
    cases hg
    exact fin _ _ dX5_retreat_70
  have L : ∀ (nf : Nat) (v1 : Int32) (v2 : Int32), ∀ ls : Array Slot, lv_has ls 5 [(3, .int v2), (2, .int v1), (0, .ref A_t), (1, .int x1)] → g_X5_retreat_L1 V_t_s x1 V_t_place V_t_fails V_t_why V_t_driver nf v1 v2 = some v9 → W p l e rX5_retreat s m args below meth c s.heap [] 0 0 Q (F0 m 5 ls []) := by
    intro nf
    induction nf with
    | zero =>
      intro v1 v2 ls hl hg
      exact no_some hg
    | succ nf ih =>
      intro v1 v2 ls hl hg
      rw [g_X5_retreat_L1] at hg
      refine lv_iload_n hx hb dX5_retreat_5 rfl (lv_at hl 0 rfl) ?_
      refine lv_if_lt (tgt := 69) hx hb dX5_retreat_6 (by decide) (fun hc => ?_) (fun hc => ?_)
      · replace hg := if_yes hg hc
        cases hg
        exact kx _ (lv_sub hl [1] rfl)
      · replace hg := if_no hg hc
        refine lv_aload_n hx hb dX5_retreat_9 rfl (lv_at hl 2 rfl) ?_
        refine lv_iload_n hx hb dX5_retreat_10 rfl (lv_at hl 3 rfl) ?_
        refine lv_iconst (v := 1) hx hb dX5_retreat_11 (by decide) ?_
        obtain ⟨v3, hq, hg⟩ := bind_ex hg
        refine callRVi (As := [.int x1, .int 1]) (rest := []) S hK hP (c_X5_of l D cI cZ cB cJ A_t A_t_s A_t_aside A_t_snapshot A_t_saved A_t_text A_t_counts A_t_isCut A_t_strength A_t_fails A_t_why A_t_driver A_t_place A_t_isDone V_t_thrown V_t_isKept V_t_savedMany V_t_length V_t_position V_t_isWrong V_t_digested V_t_s x1 1 v3 hq) [0, 1] rfl (cwV 2 hts gX5_retreat_X5_of rfl rfl rfl hd_X5_of ⟨Nat.le_of_ble_eq_true rfl, Nat.le_of_ble_eq_true rfl⟩) rfl rfl rfl hl.1 rfl (Nat.le_of_ble_eq_true rfl) dX5_retreat_12 ⟨Nat.zero_le _, Nat.zero_le _⟩ ?_
        refine lv_iload_n hx hb dX5_retreat_15 rfl (lv_at hl 0 rfl) ?_
        obtain ⟨v4, hq, hg⟩ := bind_ex hg
        refine callRSz (As := [.int v3, .int v2]) (rest := []) S hK hP (c_X5_areNeighbours l D cI cZ cB cJ v3 v2 v4 hq) [] rfl (va_cwS 2 hts gX5_retreat_X5_areNeighbours rfl rfl rfl hd_X5_areNeighbours ⟨Nat.le_of_ble_eq_true rfl, Nat.le_of_ble_eq_true rfl⟩) rfl hl.1 rfl (Nat.le_of_ble_eq_true rfl) dX5_retreat_16 ⟨Nat.zero_le _, Nat.zero_le _⟩ (fun hz_v4 => ?_)
        have hJ1 : ∀ (v8 : Int32), bo v8 → ∀ ls : Array Slot, lv_has ls 5 [(3, .int v2), (2, .int v1), (0, .ref A_t), (1, .int x1)] → g_X5_retreat_J1 v1 v2 (g_X5_retreat_L1 V_t_s x1 V_t_place V_t_fails V_t_why V_t_driver nf) v8 = some v9 → W p l e rX5_retreat s m args below meth c s.heap [] 0 0 Q (F0 m 50 ls [.int v8]) := by
          intro v8 hz_v8 ls hl hg
          unfold g_X5_retreat_J1 at hg
          refine lv_istore (lv' := [(4, .int v8), (3, .int v2), (2, .int v1), (0, .ref A_t), (1, .int x1)]) hx hb dX5_retreat_50 hl (by decide) rfl (fun ls hl => ?_)
          refine lv_iload hx hb dX5_retreat_52 (lv_at hl 0 rfl) ?_
          refine lv_if_eq (tgt := 61) hx hb dX5_retreat_54 (by decide) (fun hc => ?_) (fun hc => ?_)
          · replace hg := if_yes hg hc
            refine lv_iload_n hx hb dX5_retreat_61 rfl (lv_at hl 2 rfl) ?_
            refine lv_istore_n (lv' := [(2, .int v1), (4, .int v8), (3, .int v2), (0, .ref A_t), (1, .int x1)]) hx hb dX5_retreat_62 rfl hl (by decide) rfl (fun ls hl => ?_)
            refine lv_iinc (v := (v2 + (-1))) (lv' := [(3, .int (v2 + (-1))), (2, .int v1), (4, .int v8), (0, .ref A_t), (1, .int x1)]) hx hb dX5_retreat_63 hl (k := 2) rfl rfl (by decide) rfl (fun ls hl => ?_)
            refine lv_goto (tgt := 5) hx hb dX5_retreat_66 (by decide) ?_
            exact ih _ _ _ (lv_sub hl [0, 1, 3, 4] rfl) hg
          · replace hg := if_no hg hc
            refine lv_iload_n hx hb dX5_retreat_57 rfl (lv_at hl 1 rfl) ?_
            refine lv_goto (tgt := 62) hx hb dX5_retreat_58 (by decide) ?_
            refine lv_istore_n (lv' := [(2, .int v2), (4, .int v8), (3, .int v2), (0, .ref A_t), (1, .int x1)]) hx hb dX5_retreat_62 rfl hl (by decide) rfl (fun ls hl => ?_)
            refine lv_iinc (v := (v2 + (-1))) (lv' := [(3, .int (v2 + (-1))), (2, .int v2), (4, .int v8), (0, .ref A_t), (1, .int x1)]) hx hb dX5_retreat_63 hl (k := 2) rfl rfl (by decide) rfl (fun ls hl => ?_)
            refine lv_goto (tgt := 5) hx hb dX5_retreat_66 (by decide) ?_
            exact ih _ _ _ (lv_sub hl [0, 1, 3, 4] rfl) hg
        refine lv_if_eq (tgt := 49) hx hb dX5_retreat_19 (by decide) (fun hc => ?_) (fun hc => ?_)
        · replace hg := if_yes hg hc
          refine lv_iconst (v := 0) hx hb dX5_retreat_49 (by decide) ?_
          exact hJ1 _ bo_0 _ (lv_sub hl [0, 1, 2, 3] rfl) hg
        · replace hg := if_no hg hc
          refine lv_aload_n hx hb dX5_retreat_22 rfl (lv_at hl 2 rfl) ?_
          refine lv_iload_n hx hb dX5_retreat_23 rfl (lv_at hl 0 rfl) ?_
          obtain ⟨v5, hq, hg⟩ := bind_ex hg
          refine callRVz (As := [.int v2]) (rest := []) S hK hP (c_X5_isTaken l D cI cZ cB cJ A_t A_t_s A_t_aside A_t_snapshot A_t_saved A_t_text A_t_counts A_t_isCut A_t_strength A_t_fails A_t_why A_t_driver A_t_place A_t_isDone V_t_thrown V_t_isKept V_t_savedMany V_t_length V_t_position V_t_isWrong V_t_digested V_t_s V_t_place V_t_fails V_t_why v2 v5 hq) [0, 1, 2, 3, 4] rfl (cwV 1 hts gX5_retreat_X5_isTaken rfl rfl rfl hd_X5_isTaken ⟨Nat.le_of_ble_eq_true rfl, Nat.le_of_ble_eq_true rfl⟩) rfl rfl rfl hl.1 rfl (Nat.le_of_ble_eq_true rfl) dX5_retreat_24 ⟨Nat.zero_le _, Nat.zero_le _⟩ (fun hz_v5 => ?_)
          refine lv_if_ne (tgt := 49) hx hb dX5_retreat_27 (by decide) (fun hc => ?_) (fun hc => ?_)
          · replace hg := if_no hg hc
            refine lv_iconst (v := 0) hx hb dX5_retreat_49 (by decide) ?_
            exact hJ1 _ bo_0 _ (lv_sub hl [0, 1, 2, 3] rfl) hg
          · replace hg := if_yes hg hc
            refine lv_aload_n hx hb dX5_retreat_30 rfl (lv_at hl 2 rfl) ?_
            refine lv_aload_n hx hb dX5_retreat_31 rfl (lv_at hl 2 rfl) ?_
            refine xget (ci := 5) (C := RX5) (T := TX5) (N := 20) (v := .ref A_t_driver) hx hb hts in_X5_retreat_X5 hown hK hP 0 rfl rfl 14 (by decide) wd_X5_retreat_1 rfl dX5_retreat_32 ?_
            refine lv_iload_n hx hb dX5_retreat_35 rfl (lv_at hl 3 rfl) ?_
            obtain ⟨v6, hin, hv, hg⟩ := rdA_ex hg
            refine xiald hx hb hK hP 5 rfl hin hv dX5_retreat_36 ?_
            refine lv_iconst (v := 1) hx hb dX5_retreat_37 (by decide) ?_
            obtain ⟨v7, hq, hg⟩ := bind_ex hg
            refine callRVi (As := [.int v6, .int 1]) (rest := []) S hK hP (c_X5_of l D cI cZ cB cJ A_t A_t_s A_t_aside A_t_snapshot A_t_saved A_t_text A_t_counts A_t_isCut A_t_strength A_t_fails A_t_why A_t_driver A_t_place A_t_isDone V_t_thrown V_t_isKept V_t_savedMany V_t_length V_t_position V_t_isWrong V_t_digested V_t_s v6 1 v7 hq) [0, 1] rfl (cwV 2 hts gX5_retreat_X5_of rfl rfl rfl hd_X5_of ⟨Nat.le_of_ble_eq_true rfl, Nat.le_of_ble_eq_true rfl⟩) rfl rfl rfl hl.1 rfl (Nat.le_of_ble_eq_true rfl) dX5_retreat_38 ⟨Nat.zero_le _, Nat.zero_le _⟩ ?_
            refine lv_iload_n hx hb dX5_retreat_41 rfl (lv_at hl 0 rfl) ?_
            refine lv_icmp_eq (tgt := 49) hx hb dX5_retreat_42 (by decide) (fun hc => ?_) (fun hc => ?_)
            · replace hg := if_yes hg hc
              refine lv_iconst (v := 0) hx hb dX5_retreat_49 (by decide) ?_
              exact hJ1 _ bo_0 _ (lv_sub hl [0, 1, 2, 3] rfl) hg
            · replace hg := if_no hg hc
              refine lv_iconst (v := 1) hx hb dX5_retreat_45 (by decide) ?_
              refine lv_goto (tgt := 50) hx hb dX5_retreat_46 (by decide) ?_
              exact hJ1 _ bo_1 _ (lv_sub hl [0, 1, 2, 3] rfl) hg
  exact L FU _ _ _ (lv_sub hl [0, 1, 2, 3] rfl) hL
theorem hd_X5_nextDriven : yX5_nextDriven.cls = RX5 ∧ yX5_nextDriven.cls ≠ "java/lang/invoke/MethodHandle" ∧ yX5_nextDriven.cls ≠ "java/lang/invoke/VarHandle" ∧ (parseMethodDescriptor yX5_nextDriven.desc).map (fun d => d.parameters.length) = some 0 := by decide +kernel
theorem in_X5_nextDriven_X5 : ∀ w ∈ u_ws RX5 TX5 20, w ∈ wsX5_nextDriven := fun _ h => List.mem_cons_of_mem _ (List.mem_append_right _ h)
theorem wd_X5_nextDriven_1 : Cond.fieldLink RX5 7 "FogOrdersModel" "s" "[I" ∈ wsX5_nextDriven := List.mem_of_getElem? (i := 1) rfl
theorem wd_X5_nextDriven_2 : Cond.fieldLink RX5 41 "FogOrdersModel" "driver" "[I" ∈ wsX5_nextDriven := List.mem_of_getElem? (i := 2) rfl
theorem wd_X5_nextDriven_3 : Cond.fieldLink RX5 47 "FogOrdersModel" "isDone" "[Z" ∈ wsX5_nextDriven := List.mem_of_getElem? (i := 3) rfl
theorem wd_X5_nextDriven_4 : Cond.fieldLink RX5 32 "FogOrdersModel" "strength" "[I" ∈ wsX5_nextDriven := List.mem_of_getElem? (i := 4) rfl
abbrev rX5_nextDriven : Room := { frames := 0, cells := 0, slots := 0, locals := 0 }
set_option maxHeartbeats 4000000 in
set_option maxRecDepth 100000 in
theorem c_X5_nextDriven (l : Launch) (D : va_G) (cI cZ cB cJ : ClassId) (A_t : Nat) (A_t_s : Nat) (A_t_aside : Nat) (A_t_snapshot : Nat) (A_t_saved : Nat) (A_t_text : Nat) (A_t_counts : Nat) (A_t_isCut : Nat) (A_t_strength : Nat) (A_t_fails : Nat) (A_t_why : Nat) (A_t_driver : Nat) (A_t_place : Nat) (A_t_isDone : Nat) (V_t_thrown : Int32) (V_t_isKept : Int32) (V_t_savedMany : Int32) (V_t_length : Int32) (V_t_position : Int32) (V_t_isWrong : Int32) (V_t_digested : Int64) (V_t_s : Nat → Int32) (V_t_driver : Nat → Int32) (V_t_isDone : Nat → Int32) (V_t_strength : Nat → Int32) (r0 : Int32) (hg : g_X5_nextDriven V_t_s V_t_driver V_t_isDone V_t_strength = some r0) : Met l yX5_nextDriven wsX5_nextDriven rX5_nextDriven (PcR D cI cZ cB cJ [(A_t, .inr (5, [.int V_t_thrown, .ref A_t_s, .ref A_t_aside, .ref A_t_snapshot, .int V_t_isKept, .ref A_t_saved, .int V_t_savedMany, .ref A_t_text, .int V_t_length, .ref A_t_counts, .ref A_t_isCut, .ref A_t_strength, .ref A_t_fails, .ref A_t_why, .ref A_t_driver, .ref A_t_place, .ref A_t_isDone, .int V_t_position, .int V_t_isWrong, .long V_t_digested])), (A_t_s, .inl (cI, 77, .inl V_t_s)), (A_t_driver, .inl (cI, 9, .inl V_t_driver)), (A_t_isDone, .inl (cZ, 9, .inl V_t_isDone)), (A_t_strength, .inl (cI, 9, .inl V_t_strength))] [.ref A_t]) (vp_Si (fun r' => r' = r0 ∧ True)) 0 0 (fun _ => False) := by
  refine bodyRi (cc := cX5_nextDriven) (maxL := 4) (lv := [(0, .ref A_t)]) (by decide) rfl (Nat.le_of_ble_eq_true rfl) rfl ?_
  intro p e s m args below meth c Q hx hb hml hown hts hP hK fin ls hl
  replace hown : s.vm.findClass RX5 = some m.cls := hown
  have S : CallFix p m c cX5_nextDriven 4 s args wsX5_nextDriven RX5 := ⟨hx, hb, hml, hown, hts⟩
  unfold g_X5_nextDriven at hg
  refine lv_iconst (v := (-1)) hx hb dX5_nextDriven_0 (by decide) ?_
  refine lv_istore_n (lv' := [(1, .int (-1)), (0, .ref A_t)]) hx hb dX5_nextDriven_1 rfl hl (by decide) rfl (fun ls hl => ?_)
  refine lv_iconst (v := 0) hx hb dX5_nextDriven_2 (by decide) ?_
  refine lv_istore_n (lv' := [(2, .int 0), (1, .int (-1)), (0, .ref A_t)]) hx hb dX5_nextDriven_3 rfl hl (by decide) rfl (fun ls hl => ?_)
  obtain ⟨v11, hL, hg⟩ := bind_ex hg
  have kx : ∀ ls : Array Slot, lv_has ls 4 [(1, .int v11)] → W p l e rX5_nextDriven s m args below meth c s.heap [] 0 0 Q (F0 m 86 ls []) := by
    intro ls hl
    refine lv_iload_n hx hb dX5_nextDriven_86 rfl (lv_at hl 0 rfl) ?_
    cases hg
    exact fin _ _ dX5_nextDriven_87
  have L : ∀ (nf : Nat) (v1 : Int32) (v2 : Int32), ∀ ls : Array Slot, lv_has ls 4 [(2, .int v2), (1, .int v1), (0, .ref A_t)] → g_X5_nextDriven_L1 V_t_s V_t_driver V_t_isDone V_t_strength nf v1 v2 = some v11 → W p l e rX5_nextDriven s m args below meth c s.heap [] 0 0 Q (F0 m 4 ls []) := by
    intro nf
    induction nf with
    | zero =>
      intro v1 v2 ls hl hg
      exact no_some hg
    | succ nf ih =>
      intro v1 v2 ls hl hg
      rw [g_X5_nextDriven_L1] at hg
      refine lv_iload_n hx hb dX5_nextDriven_4 rfl (lv_at hl 0 rfl) ?_
      refine lv_aload_n hx hb dX5_nextDriven_5 rfl (lv_at hl 2 rfl) ?_
      refine xget (ci := 5) (C := RX5) (T := TX5) (N := 20) (v := .ref A_t_s) hx hb hts in_X5_nextDriven_X5 hown hK hP 0 rfl rfl 1 (by decide) wd_X5_nextDriven_1 rfl dX5_nextDriven_6 ?_
      refine lv_bipush (v := 9) hx hb dX5_nextDriven_9 (by decide) ?_
      obtain ⟨v3, hin, hv, hg⟩ := rdA_ex hg
      refine xiald hx hb hK hP 1 rfl hin hv dX5_nextDriven_11 ?_
      refine lv_icmp_ge (tgt := 86) hx hb dX5_nextDriven_12 (by decide) (fun hc => ?_) (fun hc => ?_)
      · replace hg := if_yes hg hc
        cases hg
        exact kx _ (lv_sub hl [1] rfl)
      · replace hg := if_no hg hc
        refine lv_aload_n hx hb dX5_nextDriven_15 rfl (lv_at hl 2 rfl) ?_
        refine xget (ci := 5) (C := RX5) (T := TX5) (N := 20) (v := .ref A_t_driver) hx hb hts in_X5_nextDriven_X5 hown hK hP 0 rfl rfl 14 (by decide) wd_X5_nextDriven_2 rfl dX5_nextDriven_16 ?_
        refine lv_iload_n hx hb dX5_nextDriven_19 rfl (lv_at hl 0 rfl) ?_
        obtain ⟨v4, hin, hv, hg⟩ := rdA_ex hg
        refine xiald hx hb hK hP 2 rfl hin hv dX5_nextDriven_20 ?_
        refine lv_iconst (v := (-1)) hx hb dX5_nextDriven_21 (by decide) ?_
        have hJ1 : ∀ (v10 : Int32), bo v10 → ∀ ls : Array Slot, lv_has ls 4 [(2, .int v2), (1, .int v1), (0, .ref A_t)] → g_X5_nextDriven_J1 v1 v2 (g_X5_nextDriven_L1 V_t_s V_t_driver V_t_isDone V_t_strength nf) v10 = some v11 → W p l e rX5_nextDriven s m args below meth c s.heap [] 0 0 Q (F0 m 69 ls [.int v10]) := by
          intro v10 hz_v10 ls hl hg
          unfold g_X5_nextDriven_J1 at hg
          refine lv_istore_n (lv' := [(3, .int v10), (2, .int v2), (1, .int v1), (0, .ref A_t)]) hx hb dX5_nextDriven_69 rfl hl (by decide) rfl (fun ls hl => ?_)
          refine lv_iload_n hx hb dX5_nextDriven_70 rfl (lv_at hl 0 rfl) ?_
          refine lv_if_eq (tgt := 78) hx hb dX5_nextDriven_71 (by decide) (fun hc => ?_) (fun hc => ?_)
          · replace hg := if_yes hg hc
            refine lv_iload_n hx hb dX5_nextDriven_78 rfl (lv_at hl 2 rfl) ?_
            refine lv_istore_n (lv' := [(1, .int v1), (3, .int v10), (2, .int v2), (0, .ref A_t)]) hx hb dX5_nextDriven_79 rfl hl (by decide) rfl (fun ls hl => ?_)
            refine lv_iinc (v := (v2 + 1)) (lv' := [(2, .int (v2 + 1)), (1, .int v1), (3, .int v10), (0, .ref A_t)]) hx hb dX5_nextDriven_80 hl (k := 2) rfl rfl (by decide) rfl (fun ls hl => ?_)
            refine lv_goto (tgt := 4) hx hb dX5_nextDriven_83 (by decide) ?_
            exact ih _ _ _ (lv_sub hl [0, 1, 3] rfl) hg
          · replace hg := if_no hg hc
            refine lv_iload_n hx hb dX5_nextDriven_74 rfl (lv_at hl 1 rfl) ?_
            refine lv_goto (tgt := 79) hx hb dX5_nextDriven_75 (by decide) ?_
            refine lv_istore_n (lv' := [(1, .int v2), (3, .int v10), (2, .int v2), (0, .ref A_t)]) hx hb dX5_nextDriven_79 rfl hl (by decide) rfl (fun ls hl => ?_)
            refine lv_iinc (v := (v2 + 1)) (lv' := [(2, .int (v2 + 1)), (1, .int v2), (3, .int v10), (0, .ref A_t)]) hx hb dX5_nextDriven_80 hl (k := 2) rfl rfl (by decide) rfl (fun ls hl => ?_)
            refine lv_goto (tgt := 4) hx hb dX5_nextDriven_83 (by decide) ?_
            exact ih _ _ _ (lv_sub hl [0, 1, 3] rfl) hg
        refine lv_icmp_eq (tgt := 68) hx hb dX5_nextDriven_22 (by decide) (fun hc => ?_) (fun hc => ?_)
        · replace hg := if_yes hg hc
          refine lv_iconst (v := 0) hx hb dX5_nextDriven_68 (by decide) ?_
          exact hJ1 _ bo_0 _ (lv_sub hl [0, 1, 2] rfl) hg
        · replace hg := if_no hg hc
          refine lv_aload_n hx hb dX5_nextDriven_25 rfl (lv_at hl 2 rfl) ?_
          refine xget (ci := 5) (C := RX5) (T := TX5) (N := 20) (v := .ref A_t_isDone) hx hb hts in_X5_nextDriven_X5 hown hK hP 0 rfl rfl 16 (by decide) wd_X5_nextDriven_3 rfl dX5_nextDriven_26 ?_
          refine lv_iload_n hx hb dX5_nextDriven_29 rfl (lv_at hl 0 rfl) ?_
          obtain ⟨v5, hin, hv, hg⟩ := rdA_ex hg
          refine xzald hx hb hK hP 3 rfl hin hv dX5_nextDriven_30 ?_
          refine lv_if_ne (tgt := 68) hx hb dX5_nextDriven_31 (by decide) (fun hc => ?_) (fun hc => ?_)
          · replace hg := if_no hg hc
            refine lv_iconst (v := 0) hx hb dX5_nextDriven_68 (by decide) ?_
            exact hJ1 _ bo_0 _ (lv_sub hl [0, 1, 2] rfl) hg
          · replace hg := if_yes hg hc
            refine lv_iload_n hx hb dX5_nextDriven_34 rfl (lv_at hl 1 rfl) ?_
            refine lv_iconst (v := (-1)) hx hb dX5_nextDriven_35 (by decide) ?_
            refine lv_icmp_eq (tgt := 64) hx hb dX5_nextDriven_36 (by decide) (fun hc => ?_) (fun hc => ?_)
            · replace hg := if_yes hg hc
              refine lv_iconst (v := 1) hx hb dX5_nextDriven_64 (by decide) ?_
              refine lv_goto (tgt := 69) hx hb dX5_nextDriven_65 (by decide) ?_
              exact hJ1 _ bo_1 _ (lv_sub hl [0, 1, 2] rfl) hg
            · replace hg := if_no hg hc
              refine lv_aload_n hx hb dX5_nextDriven_39 rfl (lv_at hl 2 rfl) ?_
              refine xget (ci := 5) (C := RX5) (T := TX5) (N := 20) (v := .ref A_t_strength) hx hb hts in_X5_nextDriven_X5 hown hK hP 0 rfl rfl 11 (by decide) wd_X5_nextDriven_4 rfl dX5_nextDriven_40 ?_
              refine lv_aload_n hx hb dX5_nextDriven_43 rfl (lv_at hl 2 rfl) ?_
              refine xget (ci := 5) (C := RX5) (T := TX5) (N := 20) (v := .ref A_t_driver) hx hb hts in_X5_nextDriven_X5 hown hK hP 0 rfl rfl 14 (by decide) wd_X5_nextDriven_2 rfl dX5_nextDriven_44 ?_
              refine lv_iload_n hx hb dX5_nextDriven_47 rfl (lv_at hl 0 rfl) ?_
              obtain ⟨v6, hin, hv, hg⟩ := rdA_ex hg
              refine xiald hx hb hK hP 2 rfl hin hv dX5_nextDriven_48 ?_
              obtain ⟨v7, hin, hv, hg⟩ := rdA_ex hg
              refine xiald hx hb hK hP 4 rfl hin hv dX5_nextDriven_49 ?_
              refine lv_aload_n hx hb dX5_nextDriven_50 rfl (lv_at hl 2 rfl) ?_
              refine xget (ci := 5) (C := RX5) (T := TX5) (N := 20) (v := .ref A_t_strength) hx hb hts in_X5_nextDriven_X5 hown hK hP 0 rfl rfl 11 (by decide) wd_X5_nextDriven_4 rfl dX5_nextDriven_51 ?_
              refine lv_aload_n hx hb dX5_nextDriven_54 rfl (lv_at hl 2 rfl) ?_
              refine xget (ci := 5) (C := RX5) (T := TX5) (N := 20) (v := .ref A_t_driver) hx hb hts in_X5_nextDriven_X5 hown hK hP 0 rfl rfl 14 (by decide) wd_X5_nextDriven_2 rfl dX5_nextDriven_55 ?_
              refine lv_iload_n hx hb dX5_nextDriven_58 rfl (lv_at hl 1 rfl) ?_
              obtain ⟨v8, hin, hv, hg⟩ := rdA_ex hg
              refine xiald hx hb hK hP 2 rfl hin hv dX5_nextDriven_59 ?_
              obtain ⟨v9, hin, hv, hg⟩ := rdA_ex hg
              refine xiald hx hb hK hP 4 rfl hin hv dX5_nextDriven_60 ?_
              refine lv_icmp_le (tgt := 68) hx hb dX5_nextDriven_61 (by decide) (fun hc => ?_) (fun hc => ?_)
              · replace hg := if_yes hg hc
                refine lv_iconst (v := 0) hx hb dX5_nextDriven_68 (by decide) ?_
                exact hJ1 _ bo_0 _ (lv_sub hl [0, 1, 2] rfl) hg
              · replace hg := if_no hg hc
                refine lv_iconst (v := 1) hx hb dX5_nextDriven_64 (by decide) ?_
                refine lv_goto (tgt := 69) hx hb dX5_nextDriven_65 (by decide) ?_
                exact hJ1 _ bo_1 _ (lv_sub hl [0, 1, 2] rfl) hg
  exact L FU _ _ _ (lv_sub hl [0, 1, 2] rfl) hL
theorem hd_X5_layOpening : yX5_layOpening.cls = RX5 ∧ yX5_layOpening.cls ≠ "java/lang/invoke/MethodHandle" ∧ yX5_layOpening.cls ≠ "java/lang/invoke/VarHandle" ∧ (parseMethodDescriptor yX5_layOpening.desc).map (fun d => d.parameters.length) = some 0 := by decide +kernel
theorem in_X5_layOpening_X5 : ∀ w ∈ u_ws RX5 TX5 20, w ∈ wsX5_layOpening := fun _ h => List.mem_cons_of_mem _ (List.mem_append_right _ h)
theorem wd_X5_layOpening_2 : Cond.fieldLink RX5 44 "FogOrdersModel" "place" "[I" ∈ wsX5_layOpening := List.mem_of_getElem? (i := 2) rfl
theorem wd_X5_layOpening_4 : Cond.fieldLink RX5 47 "FogOrdersModel" "isDone" "[Z" ∈ wsX5_layOpening := List.mem_of_getElem? (i := 4) rfl
theorem wd_X5_layOpening_1 : Cond.fieldLink RX5 7 "FogOrdersModel" "s" "[I" ∈ wsX5_layOpening := List.mem_of_getElem? (i := 1) rfl
theorem wd_X5_layOpening_3 : Cond.fieldLink RX5 41 "FogOrdersModel" "driver" "[I" ∈ wsX5_layOpening := List.mem_of_getElem? (i := 3) rfl
abbrev rX5_layOpening : Room := { frames := 6, cells := 0, slots := 0, locals := 132 }
set_option maxHeartbeats 4000000 in
set_option maxRecDepth 100000 in
theorem c_X5_layOpening (l : Launch) (D : va_G) (cI cZ cB cJ : ClassId) (A_t : Nat) (A_t_s : Nat) (A_t_aside : Nat) (A_t_snapshot : Nat) (A_t_saved : Nat) (A_t_text : Nat) (A_t_counts : Nat) (A_t_isCut : Nat) (A_t_strength : Nat) (A_t_fails : Nat) (A_t_why : Nat) (A_t_driver : Nat) (A_t_place : Nat) (A_t_isDone : Nat) (sz : Nat) (V_t_thrown : Int32) (V_t_isKept : Int32) (V_t_savedMany : Int32) (V_t_length : Int32) (V_t_position : Int32) (V_t_isWrong : Int32) (V_t_digested : Int64) (V_t_s : Nat → Int32) (V_t_isCut : Nat → Int32) (V_t_counts : Nat → Int32) (V_t_strength : Nat → Int32) (V_t_fails : Nat → Int32) (V_t_driver : Nat → Int32) (V_t_why : Nat → Int32) (V_t_isDone : Nat → Int32) (V_t_place : Nat → Int32) (w1 : Nat → Int32) (w2 : Nat → Int32) (w3 : Nat → Int32) (w4 : Nat → Int32) (w5 : Nat → Int32) (w6 : Nat → Int32) (w7 : Nat → Int32) (w8 : Nat → Int32) (hg : g_X5_layOpening V_t_s V_t_isCut V_t_counts V_t_strength V_t_fails V_t_driver V_t_why V_t_isDone V_t_place = some (w1, w2, w3, w4, w5, w6, w7, w8)) : Met l yX5_layOpening wsX5_layOpening rX5_layOpening (PcW D cI cZ cB cJ sz [(A_t, .inr (5, [.int V_t_thrown, .ref A_t_s, .ref A_t_aside, .ref A_t_snapshot, .int V_t_isKept, .ref A_t_saved, .int V_t_savedMany, .ref A_t_text, .int V_t_length, .ref A_t_counts, .ref A_t_isCut, .ref A_t_strength, .ref A_t_fails, .ref A_t_why, .ref A_t_driver, .ref A_t_place, .ref A_t_isDone, .int V_t_position, .int V_t_isWrong, .long V_t_digested])), (A_t_s, .inl (cI, 77, .inl V_t_s)), (A_t_isCut, .inl (cZ, 9, .inl V_t_isCut)), (A_t_counts, .inl (cZ, 9, .inl V_t_counts)), (A_t_strength, .inl (cI, 9, .inl V_t_strength)), (A_t_fails, .inl (cZ, 9, .inl V_t_fails)), (A_t_driver, .inl (cI, 9, .inl V_t_driver)), (A_t_why, .inl (cI, 9, .inl V_t_why)), (A_t_isDone, .inl (cZ, 9, .inl V_t_isDone)), (A_t_place, .inl (cI, 9, .inl V_t_place))] [.ref A_t]) (QWv D cI cZ cB cJ sz [(A_t, .inr (5, [.int V_t_thrown, .ref A_t_s, .ref A_t_aside, .ref A_t_snapshot, .int V_t_isKept, .ref A_t_saved, .int V_t_savedMany, .ref A_t_text, .int V_t_length, .ref A_t_counts, .ref A_t_isCut, .ref A_t_strength, .ref A_t_fails, .ref A_t_why, .ref A_t_driver, .ref A_t_place, .ref A_t_isDone, .int V_t_position, .int V_t_isWrong, .long V_t_digested])), (A_t_s, .inl (cI, 77, .inl V_t_s)), (A_t_isCut, .inl (cZ, 9, .inl V_t_isCut)), (A_t_counts, .inl (cZ, 9, .inl V_t_counts)), (A_t_strength, .inl (cI, 9, .inl V_t_strength)), (A_t_fails, .inl (cZ, 9, .inl V_t_fails)), (A_t_driver, .inl (cI, 9, .inl V_t_driver)), (A_t_why, .inl (cI, 9, .inl V_t_why)), (A_t_isDone, .inl (cZ, 9, .inl V_t_isDone)), (A_t_place, .inl (cI, 9, .inl V_t_place))] [(A_t, .inr (5, [.int V_t_thrown, .ref A_t_s, .ref A_t_aside, .ref A_t_snapshot, .int V_t_isKept, .ref A_t_saved, .int V_t_savedMany, .ref A_t_text, .int V_t_length, .ref A_t_counts, .ref A_t_isCut, .ref A_t_strength, .ref A_t_fails, .ref A_t_why, .ref A_t_driver, .ref A_t_place, .ref A_t_isDone, .int V_t_position, .int V_t_isWrong, .long V_t_digested])), (A_t_s, .inl (cI, 77, .inl V_t_s)), (A_t_isCut, .inl (cZ, 9, .inl w1)), (A_t_counts, .inl (cZ, 9, .inl w2)), (A_t_strength, .inl (cI, 9, .inl w3)), (A_t_fails, .inl (cZ, 9, .inl w4)), (A_t_driver, .inl (cI, 9, .inl w5)), (A_t_why, .inl (cI, 9, .inl w6)), (A_t_isDone, .inl (cZ, 9, .inl w7)), (A_t_place, .inl (cI, 9, .inl w8))]) 0 0 (va_A [(A_t, .inr (5, [.int V_t_thrown, .ref A_t_s, .ref A_t_aside, .ref A_t_snapshot, .int V_t_isKept, .ref A_t_saved, .int V_t_savedMany, .ref A_t_text, .int V_t_length, .ref A_t_counts, .ref A_t_isCut, .ref A_t_strength, .ref A_t_fails, .ref A_t_why, .ref A_t_driver, .ref A_t_place, .ref A_t_isDone, .int V_t_position, .int V_t_isWrong, .long V_t_digested])), (A_t_s, .inl (cI, 77, .inl V_t_s)), (A_t_isCut, .inl (cZ, 9, .inl V_t_isCut)), (A_t_counts, .inl (cZ, 9, .inl V_t_counts)), (A_t_strength, .inl (cI, 9, .inl V_t_strength)), (A_t_fails, .inl (cZ, 9, .inl V_t_fails)), (A_t_driver, .inl (cI, 9, .inl V_t_driver)), (A_t_why, .inl (cI, 9, .inl V_t_why)), (A_t_isDone, .inl (cZ, 9, .inl V_t_isDone)), (A_t_place, .inl (cI, 9, .inl V_t_place))] sz) := by
  refine bodyWv (cc := cX5_layOpening) (maxL := 3) (lv := [(0, .ref A_t)]) (by decide) rfl (Nat.le_of_ble_eq_true rfl) rfl ?_
  intro p e s m args below meth c Q hx hb hml hown hts A hP hK hD hA hS fin ls hl
  replace hown : s.vm.findClass RX5 = some m.cls := hown
  have S : CallFix p m c cX5_layOpening 3 s args wsX5_layOpening RX5 := ⟨hx, hb, hml, hown, hts⟩
  unfold g_X5_layOpening at hg
  refine lv_aload_n hx hb dX5_layOpening_0 rfl (lv_at hl 0 rfl) ?_
  obtain ⟨f1, f2, f3, f4, f5, f6, f7, hq, hg⟩ := b7_ex hg
  refine callWVv (As := []) (rest := []) (wr := [(A_t_place, .inl (cI, 9, .inl V_t_place))]) S hK hP hD hS hA (c_X5_layStrengths l D cI cZ cB cJ A_t A_t_s A_t_aside A_t_snapshot A_t_saved A_t_text A_t_counts A_t_isCut A_t_strength A_t_fails A_t_why A_t_driver A_t_place A_t_isDone _ V_t_thrown V_t_isKept V_t_savedMany V_t_length V_t_position V_t_isWrong V_t_digested V_t_s V_t_isCut V_t_counts V_t_strength V_t_fails V_t_driver V_t_why V_t_isDone f1 f2 f3 f4 f5 f6 f7 hq) [0, 1, 2, 3, 4, 5, 6, 7, 8] [9] rfl rfl (by decide +kernel) (by decide +kernel) (by decide +kernel) (cwV 0 hts gX5_layOpening_X5_layStrengths rfl rfl rfl hd_X5_layStrengths ⟨Nat.le_of_ble_eq_true rfl, Nat.le_of_ble_eq_true rfl⟩) rfl rfl rfl hl.1 rfl (Nat.le_of_ble_eq_true rfl) dX5_layOpening_1 ⟨Nat.zero_le _, Nat.zero_le _⟩ (fun H locs hP hD hS => ?_)
  replace hP : va_P D vwCl [(A_t_place, .inl (cI, 9, .inl V_t_place)), (A_t, .inr (5, [.int V_t_thrown, .ref A_t_s, .ref A_t_aside, .ref A_t_snapshot, .int V_t_isKept, .ref A_t_saved, .int V_t_savedMany, .ref A_t_text, .int V_t_length, .ref A_t_counts, .ref A_t_isCut, .ref A_t_strength, .ref A_t_fails, .ref A_t_why, .ref A_t_driver, .ref A_t_place, .ref A_t_isDone, .int V_t_position, .int V_t_isWrong, .long V_t_digested])), (A_t_s, .inl (cI, 77, .inl V_t_s)), (A_t_isCut, .inl (cZ, 9, .inl f1)), (A_t_counts, .inl (cZ, 9, .inl f2)), (A_t_strength, .inl (cI, 9, .inl f3)), (A_t_fails, .inl (cZ, 9, .inl f4)), (A_t_driver, .inl (cI, 9, .inl f5)), (A_t_why, .inl (cI, 9, .inl f6)), (A_t_isDone, .inl (cZ, 9, .inl f7))] H := hP
  replace hD : va_D A [(A_t_place, .inl (cI, 9, .inl V_t_place)), (A_t, .inr (5, [.int V_t_thrown, .ref A_t_s, .ref A_t_aside, .ref A_t_snapshot, .int V_t_isKept, .ref A_t_saved, .int V_t_savedMany, .ref A_t_text, .int V_t_length, .ref A_t_counts, .ref A_t_isCut, .ref A_t_strength, .ref A_t_fails, .ref A_t_why, .ref A_t_driver, .ref A_t_place, .ref A_t_isDone, .int V_t_position, .int V_t_isWrong, .long V_t_digested])), (A_t_s, .inl (cI, 77, .inl V_t_s)), (A_t_isCut, .inl (cZ, 9, .inl f1)), (A_t_counts, .inl (cZ, 9, .inl f2)), (A_t_strength, .inl (cI, 9, .inl f3)), (A_t_fails, .inl (cZ, 9, .inl f4)), (A_t_driver, .inl (cI, 9, .inl f5)), (A_t_why, .inl (cI, 9, .inl f6)), (A_t_isDone, .inl (cZ, 9, .inl f7))] := hD
  refine lv_aload_n hx hb dX5_layOpening_4 rfl (lv_at hl 0 rfl) ?_
  obtain ⟨f8, f9, hq, hg⟩ := b2_ex hg
  refine callWVv (As := []) (rest := []) (wr := [(A_t_place, .inl (cI, 9, .inl V_t_place)), (A_t_isCut, .inl (cZ, 9, .inl f1)), (A_t_counts, .inl (cZ, 9, .inl f2)), (A_t_driver, .inl (cI, 9, .inl f5)), (A_t_isDone, .inl (cZ, 9, .inl f7))]) S hK hP hD hS hA (c_X5_layFails l D cI cZ cB cJ A_t A_t_s A_t_aside A_t_snapshot A_t_saved A_t_text A_t_counts A_t_isCut A_t_strength A_t_fails A_t_why A_t_driver A_t_place A_t_isDone _ V_t_thrown V_t_isKept V_t_savedMany V_t_length V_t_position V_t_isWrong V_t_digested V_t_s f4 f3 f6 f8 f9 hq) [1, 2, 6, 5, 8] [0, 3, 4, 7, 9] rfl rfl (by decide +kernel) (by decide +kernel) (by decide +kernel) (cwV 0 hts gX5_layOpening_X5_layFails rfl rfl rfl hd_X5_layFails ⟨Nat.le_of_ble_eq_true rfl, Nat.le_of_ble_eq_true rfl⟩) rfl rfl rfl hl.1 rfl (Nat.le_of_ble_eq_true rfl) dX5_layOpening_5 ⟨Nat.zero_le _, Nat.zero_le _⟩ (fun H locs hP hD hS => ?_)
  replace hP : va_P D vwCl [(A_t_place, .inl (cI, 9, .inl V_t_place)), (A_t_isCut, .inl (cZ, 9, .inl f1)), (A_t_counts, .inl (cZ, 9, .inl f2)), (A_t_driver, .inl (cI, 9, .inl f5)), (A_t_isDone, .inl (cZ, 9, .inl f7)), (A_t, .inr (5, [.int V_t_thrown, .ref A_t_s, .ref A_t_aside, .ref A_t_snapshot, .int V_t_isKept, .ref A_t_saved, .int V_t_savedMany, .ref A_t_text, .int V_t_length, .ref A_t_counts, .ref A_t_isCut, .ref A_t_strength, .ref A_t_fails, .ref A_t_why, .ref A_t_driver, .ref A_t_place, .ref A_t_isDone, .int V_t_position, .int V_t_isWrong, .long V_t_digested])), (A_t_s, .inl (cI, 77, .inl V_t_s)), (A_t_fails, .inl (cZ, 9, .inl f8)), (A_t_strength, .inl (cI, 9, .inl f3)), (A_t_why, .inl (cI, 9, .inl f9))] H := hP
  replace hD : va_D A [(A_t_place, .inl (cI, 9, .inl V_t_place)), (A_t_isCut, .inl (cZ, 9, .inl f1)), (A_t_counts, .inl (cZ, 9, .inl f2)), (A_t_driver, .inl (cI, 9, .inl f5)), (A_t_isDone, .inl (cZ, 9, .inl f7)), (A_t, .inr (5, [.int V_t_thrown, .ref A_t_s, .ref A_t_aside, .ref A_t_snapshot, .int V_t_isKept, .ref A_t_saved, .int V_t_savedMany, .ref A_t_text, .int V_t_length, .ref A_t_counts, .ref A_t_isCut, .ref A_t_strength, .ref A_t_fails, .ref A_t_why, .ref A_t_driver, .ref A_t_place, .ref A_t_isDone, .int V_t_position, .int V_t_isWrong, .long V_t_digested])), (A_t_s, .inl (cI, 77, .inl V_t_s)), (A_t_fails, .inl (cZ, 9, .inl f8)), (A_t_strength, .inl (cI, 9, .inl f3)), (A_t_why, .inl (cI, 9, .inl f9))] := hD
  refine lv_iconst (v := 0) hx hb dX5_layOpening_8 (by decide) ?_
  refine lv_istore_n (lv' := [(1, .int 0), (0, .ref A_t)]) hx hb dX5_layOpening_9 rfl hl (by decide) rfl (fun ls hl => ?_)
  obtain ⟨f18, hL, hg⟩ := bind_ex hg
  have kx : ∀ (H : Heap) (locs : List Loc), va_P D vwCl [(A_t_place, .inl (cI, 9, .inl f18)), (A_t_isCut, .inl (cZ, 9, .inl f1)), (A_t_counts, .inl (cZ, 9, .inl f2)), (A_t_driver, .inl (cI, 9, .inl f5)), (A_t_isDone, .inl (cZ, 9, .inl f7)), (A_t, .inr (5, [.int V_t_thrown, .ref A_t_s, .ref A_t_aside, .ref A_t_snapshot, .int V_t_isKept, .ref A_t_saved, .int V_t_savedMany, .ref A_t_text, .int V_t_length, .ref A_t_counts, .ref A_t_isCut, .ref A_t_strength, .ref A_t_fails, .ref A_t_why, .ref A_t_driver, .ref A_t_place, .ref A_t_isDone, .int V_t_position, .int V_t_isWrong, .long V_t_digested])), (A_t_s, .inl (cI, 77, .inl V_t_s)), (A_t_fails, .inl (cZ, 9, .inl f8)), (A_t_strength, .inl (cI, 9, .inl f3)), (A_t_why, .inl (cI, 9, .inl f9))] H → va_D A [(A_t_place, .inl (cI, 9, .inl f18)), (A_t_isCut, .inl (cZ, 9, .inl f1)), (A_t_counts, .inl (cZ, 9, .inl f2)), (A_t_driver, .inl (cI, 9, .inl f5)), (A_t_isDone, .inl (cZ, 9, .inl f7)), (A_t, .inr (5, [.int V_t_thrown, .ref A_t_s, .ref A_t_aside, .ref A_t_snapshot, .int V_t_isKept, .ref A_t_saved, .int V_t_savedMany, .ref A_t_text, .int V_t_length, .ref A_t_counts, .ref A_t_isCut, .ref A_t_strength, .ref A_t_fails, .ref A_t_why, .ref A_t_driver, .ref A_t_place, .ref A_t_isDone, .int V_t_position, .int V_t_isWrong, .long V_t_digested])), (A_t_s, .inl (cI, 77, .inl V_t_s)), (A_t_fails, .inl (cZ, 9, .inl f8)), (A_t_strength, .inl (cI, 9, .inl f3)), (A_t_why, .inl (cI, 9, .inl f9))] → va_S A s.heap H locs → ∀ ls : Array Slot, lv_has ls 3 [(0, .ref A_t)] → W p l e rX5_layOpening s m args below meth c H locs 0 0 Q (F0 m 56 ls []) := by
    intro H locs hP hD hS ls hl
    refine lv_iconst (v := 0) hx hb dX5_layOpening_56 (by decide) ?_
    refine lv_istore_n (lv' := [(1, .int 0), (0, .ref A_t)]) hx hb dX5_layOpening_57 rfl hl (by decide) rfl (fun ls hl => ?_)
    obtain ⟨f28, hL, hg⟩ := bind_ex hg
    have kx : ∀ (H : Heap) (locs : List Loc), va_P D vwCl [(A_t_place, .inl (cI, 9, .inl f18)), (A_t_isCut, .inl (cZ, 9, .inl f1)), (A_t_counts, .inl (cZ, 9, .inl f2)), (A_t_driver, .inl (cI, 9, .inl f28)), (A_t_isDone, .inl (cZ, 9, .inl f7)), (A_t, .inr (5, [.int V_t_thrown, .ref A_t_s, .ref A_t_aside, .ref A_t_snapshot, .int V_t_isKept, .ref A_t_saved, .int V_t_savedMany, .ref A_t_text, .int V_t_length, .ref A_t_counts, .ref A_t_isCut, .ref A_t_strength, .ref A_t_fails, .ref A_t_why, .ref A_t_driver, .ref A_t_place, .ref A_t_isDone, .int V_t_position, .int V_t_isWrong, .long V_t_digested])), (A_t_s, .inl (cI, 77, .inl V_t_s)), (A_t_fails, .inl (cZ, 9, .inl f8)), (A_t_strength, .inl (cI, 9, .inl f3)), (A_t_why, .inl (cI, 9, .inl f9))] H → va_D A [(A_t_place, .inl (cI, 9, .inl f18)), (A_t_isCut, .inl (cZ, 9, .inl f1)), (A_t_counts, .inl (cZ, 9, .inl f2)), (A_t_driver, .inl (cI, 9, .inl f28)), (A_t_isDone, .inl (cZ, 9, .inl f7)), (A_t, .inr (5, [.int V_t_thrown, .ref A_t_s, .ref A_t_aside, .ref A_t_snapshot, .int V_t_isKept, .ref A_t_saved, .int V_t_savedMany, .ref A_t_text, .int V_t_length, .ref A_t_counts, .ref A_t_isCut, .ref A_t_strength, .ref A_t_fails, .ref A_t_why, .ref A_t_driver, .ref A_t_place, .ref A_t_isDone, .int V_t_position, .int V_t_isWrong, .long V_t_digested])), (A_t_s, .inl (cI, 77, .inl V_t_s)), (A_t_fails, .inl (cZ, 9, .inl f8)), (A_t_strength, .inl (cI, 9, .inl f3)), (A_t_why, .inl (cI, 9, .inl f9))] → va_S A s.heap H locs → ∀ ls : Array Slot, lv_has ls 3 [(0, .ref A_t)] → W p l e rX5_layOpening s m args below meth c H locs 0 0 Q (F0 m 118 ls []) := by
      intro H locs hP hD hS ls hl
      refine lv_aload_n hx hb dX5_layOpening_118 rfl (lv_at hl 0 rfl) ?_
      obtain ⟨v29, hq, hg⟩ := bind_ex hg
      refine callRVi (As := []) (rest := []) S hK hP (c_X5_nextDriven l D cI cZ cB cJ A_t A_t_s A_t_aside A_t_snapshot A_t_saved A_t_text A_t_counts A_t_isCut A_t_strength A_t_fails A_t_why A_t_driver A_t_place A_t_isDone V_t_thrown V_t_isKept V_t_savedMany V_t_length V_t_position V_t_isWrong V_t_digested V_t_s f28 f7 f3 v29 hq) [5, 6, 3, 4, 8] rfl (cwV 0 hts gX5_layOpening_X5_nextDriven rfl rfl rfl hd_X5_nextDriven ⟨Nat.le_of_ble_eq_true rfl, Nat.le_of_ble_eq_true rfl⟩) rfl rfl rfl hl.1 rfl (Nat.le_of_ble_eq_true rfl) dX5_layOpening_119 ⟨Nat.zero_le _, Nat.zero_le _⟩ ?_
      refine lv_istore_n (lv' := [(1, .int v29), (0, .ref A_t)]) hx hb dX5_layOpening_122 rfl hl (by decide) rfl (fun ls hl => ?_)
      obtain ⟨f37, f38, hL, hg⟩ := b2_ex hg
      have kx : ∀ (H : Heap) (locs : List Loc), va_P D vwCl [(A_t_place, .inl (cI, 9, .inl f38)), (A_t_isCut, .inl (cZ, 9, .inl f1)), (A_t_counts, .inl (cZ, 9, .inl f2)), (A_t_driver, .inl (cI, 9, .inl f28)), (A_t_isDone, .inl (cZ, 9, .inl f37)), (A_t, .inr (5, [.int V_t_thrown, .ref A_t_s, .ref A_t_aside, .ref A_t_snapshot, .int V_t_isKept, .ref A_t_saved, .int V_t_savedMany, .ref A_t_text, .int V_t_length, .ref A_t_counts, .ref A_t_isCut, .ref A_t_strength, .ref A_t_fails, .ref A_t_why, .ref A_t_driver, .ref A_t_place, .ref A_t_isDone, .int V_t_position, .int V_t_isWrong, .long V_t_digested])), (A_t_s, .inl (cI, 77, .inl V_t_s)), (A_t_fails, .inl (cZ, 9, .inl f8)), (A_t_strength, .inl (cI, 9, .inl f3)), (A_t_why, .inl (cI, 9, .inl f9))] H → va_D A [(A_t_place, .inl (cI, 9, .inl f38)), (A_t_isCut, .inl (cZ, 9, .inl f1)), (A_t_counts, .inl (cZ, 9, .inl f2)), (A_t_driver, .inl (cI, 9, .inl f28)), (A_t_isDone, .inl (cZ, 9, .inl f37)), (A_t, .inr (5, [.int V_t_thrown, .ref A_t_s, .ref A_t_aside, .ref A_t_snapshot, .int V_t_isKept, .ref A_t_saved, .int V_t_savedMany, .ref A_t_text, .int V_t_length, .ref A_t_counts, .ref A_t_isCut, .ref A_t_strength, .ref A_t_fails, .ref A_t_why, .ref A_t_driver, .ref A_t_place, .ref A_t_isDone, .int V_t_position, .int V_t_isWrong, .long V_t_digested])), (A_t_s, .inl (cI, 77, .inl V_t_s)), (A_t_fails, .inl (cZ, 9, .inl f8)), (A_t_strength, .inl (cI, 9, .inl f3)), (A_t_why, .inl (cI, 9, .inl f9))] → va_S A s.heap H locs → ∀ ls : Array Slot, lv_has ls 3 [] → W p l e rX5_layOpening s m args below meth c H locs 0 0 Q (F0 m 154 ls []) := by
        intro H locs hP hD hS ls hl
        cases hg
        exact fin _ _ _ _ dX5_layOpening_154 (hP.sub [5, 6, 1, 2, 8, 7, 3, 9, 4, 0] rfl) (hD.sub [5, 6, 1, 2, 8, 7, 3, 9, 4, 0] (by decide) rfl) hS
      have L : ∀ (nf : Nat) (v30 : Int32) (f31 : Nat → Int32) (f32 : Nat → Int32), ∀ (H : Heap) (locs : List Loc), va_P D vwCl [(A_t_place, .inl (cI, 9, .inl f32)), (A_t_isCut, .inl (cZ, 9, .inl f1)), (A_t_counts, .inl (cZ, 9, .inl f2)), (A_t_driver, .inl (cI, 9, .inl f28)), (A_t_isDone, .inl (cZ, 9, .inl f31)), (A_t, .inr (5, [.int V_t_thrown, .ref A_t_s, .ref A_t_aside, .ref A_t_snapshot, .int V_t_isKept, .ref A_t_saved, .int V_t_savedMany, .ref A_t_text, .int V_t_length, .ref A_t_counts, .ref A_t_isCut, .ref A_t_strength, .ref A_t_fails, .ref A_t_why, .ref A_t_driver, .ref A_t_place, .ref A_t_isDone, .int V_t_position, .int V_t_isWrong, .long V_t_digested])), (A_t_s, .inl (cI, 77, .inl V_t_s)), (A_t_fails, .inl (cZ, 9, .inl f8)), (A_t_strength, .inl (cI, 9, .inl f3)), (A_t_why, .inl (cI, 9, .inl f9))] H → va_D A [(A_t_place, .inl (cI, 9, .inl f32)), (A_t_isCut, .inl (cZ, 9, .inl f1)), (A_t_counts, .inl (cZ, 9, .inl f2)), (A_t_driver, .inl (cI, 9, .inl f28)), (A_t_isDone, .inl (cZ, 9, .inl f31)), (A_t, .inr (5, [.int V_t_thrown, .ref A_t_s, .ref A_t_aside, .ref A_t_snapshot, .int V_t_isKept, .ref A_t_saved, .int V_t_savedMany, .ref A_t_text, .int V_t_length, .ref A_t_counts, .ref A_t_isCut, .ref A_t_strength, .ref A_t_fails, .ref A_t_why, .ref A_t_driver, .ref A_t_place, .ref A_t_isDone, .int V_t_position, .int V_t_isWrong, .long V_t_digested])), (A_t_s, .inl (cI, 77, .inl V_t_s)), (A_t_fails, .inl (cZ, 9, .inl f8)), (A_t_strength, .inl (cI, 9, .inl f3)), (A_t_why, .inl (cI, 9, .inl f9))] → va_S A s.heap H locs → ∀ ls : Array Slot, lv_has ls 3 [(1, .int v30), (0, .ref A_t)] → g_X5_layOpening_L3 V_t_s f8 f9 f28 f3 nf v30 f31 f32 = some (f37, f38) → W p l e rX5_layOpening s m args below meth c H locs 0 0 Q (F0 m 123 ls []) := by
        intro nf
        induction nf with
        | zero =>
          intro v30 f31 f32 H locs hP hD hS ls hl hg
          exact no_some hg
        | succ nf ih =>
          intro v30 f31 f32 H locs hP hD hS ls hl hg
          rw [g_X5_layOpening_L3] at hg
          refine lv_iload_n hx hb dX5_layOpening_123 rfl (lv_at hl 0 rfl) ?_
          refine lv_iconst (v := (-1)) hx hb dX5_layOpening_124 (by decide) ?_
          refine lv_icmp_eq (tgt := 154) hx hb dX5_layOpening_125 (by decide) (fun hc => ?_) (fun hc => ?_)
          · replace hg := if_yes hg hc
            cases hg
            exact kx _ _ hP hD hS _ (lv_sub hl [] rfl)
          · replace hg := if_no hg hc
            refine lv_aload_n hx hb dX5_layOpening_128 rfl (lv_at hl 1 rfl) ?_
            refine xget (ci := 5) (C := RX5) (T := TX5) (N := 20) (v := .ref A_t_place) hx hb hts in_X5_layOpening_X5 hown hK hP 5 rfl rfl 15 (by decide) wd_X5_layOpening_2 rfl dX5_layOpening_129 ?_
            refine lv_iload_n hx hb dX5_layOpening_132 rfl (lv_at hl 0 rfl) ?_
            refine lv_aload_n hx hb dX5_layOpening_133 rfl (lv_at hl 1 rfl) ?_
            refine lv_iload_n hx hb dX5_layOpening_134 rfl (lv_at hl 0 rfl) ?_
            obtain ⟨v33, hq, hg⟩ := bind_ex hg
            refine callRVi (As := [.int v30]) (rest := [.int v30, .ref A_t_place]) S hK hP (c_X5_retreat l D cI cZ cB cJ A_t A_t_s A_t_aside A_t_snapshot A_t_saved A_t_text A_t_counts A_t_isCut A_t_strength A_t_fails A_t_why A_t_driver A_t_place A_t_isDone V_t_thrown V_t_isKept V_t_savedMany V_t_length V_t_position V_t_isWrong V_t_digested V_t_s f32 f8 f9 f28 v30 v33 hq) [5, 6, 0, 7, 9, 3] rfl (cwV 1 hts gX5_layOpening_X5_retreat rfl rfl rfl hd_X5_retreat ⟨Nat.le_of_ble_eq_true rfl, Nat.le_of_ble_eq_true rfl⟩) rfl rfl rfl hl.1 rfl (Nat.le_of_ble_eq_true rfl) dX5_layOpening_135 ⟨Nat.zero_le _, Nat.zero_le _⟩ ?_
            obtain ⟨f34, hin, hv, hg⟩ := wrA_ex hg
            refine xiast (ws2 := [(A_t_place, .inl (cI, 9, .inl f34)), (A_t_isCut, .inl (cZ, 9, .inl f1)), (A_t_counts, .inl (cZ, 9, .inl f2)), (A_t_driver, .inl (cI, 9, .inl f28)), (A_t_isDone, .inl (cZ, 9, .inl f31)), (A_t, .inr (5, [.int V_t_thrown, .ref A_t_s, .ref A_t_aside, .ref A_t_snapshot, .int V_t_isKept, .ref A_t_saved, .int V_t_savedMany, .ref A_t_text, .int V_t_length, .ref A_t_counts, .ref A_t_isCut, .ref A_t_strength, .ref A_t_fails, .ref A_t_why, .ref A_t_driver, .ref A_t_place, .ref A_t_isDone, .int V_t_position, .int V_t_isWrong, .long V_t_digested])), (A_t_s, .inl (cI, 77, .inl V_t_s)), (A_t_fails, .inl (cZ, 9, .inl f8)), (A_t_strength, .inl (cI, 9, .inl f3)), (A_t_why, .inl (cI, 9, .inl f9))]) hx hb hK hP hD hS 0 rfl hin hv rfl dX5_layOpening_138 (fun H locs hP hD hS => ?_)
            refine lv_aload_n hx hb dX5_layOpening_139 rfl (lv_at hl 1 rfl) ?_
            refine xget (ci := 5) (C := RX5) (T := TX5) (N := 20) (v := .ref A_t_isDone) hx hb hts in_X5_layOpening_X5 hown hK hP 5 rfl rfl 16 (by decide) wd_X5_layOpening_4 rfl dX5_layOpening_140 ?_
            refine lv_iload_n hx hb dX5_layOpening_143 rfl (lv_at hl 0 rfl) ?_
            refine lv_iconst (v := 1) hx hb dX5_layOpening_144 (by decide) ?_
            obtain ⟨f35, hin, hv, hg⟩ := wrA_ex hg
            refine xzast (ws2 := [(A_t_place, .inl (cI, 9, .inl f34)), (A_t_isCut, .inl (cZ, 9, .inl f1)), (A_t_counts, .inl (cZ, 9, .inl f2)), (A_t_driver, .inl (cI, 9, .inl f28)), (A_t_isDone, .inl (cZ, 9, .inl f35)), (A_t, .inr (5, [.int V_t_thrown, .ref A_t_s, .ref A_t_aside, .ref A_t_snapshot, .int V_t_isKept, .ref A_t_saved, .int V_t_savedMany, .ref A_t_text, .int V_t_length, .ref A_t_counts, .ref A_t_isCut, .ref A_t_strength, .ref A_t_fails, .ref A_t_why, .ref A_t_driver, .ref A_t_place, .ref A_t_isDone, .int V_t_position, .int V_t_isWrong, .long V_t_digested])), (A_t_s, .inl (cI, 77, .inl V_t_s)), (A_t_fails, .inl (cZ, 9, .inl f8)), (A_t_strength, .inl (cI, 9, .inl f3)), (A_t_why, .inl (cI, 9, .inl f9))]) hx hb hK hP hD hS 4 rfl bo_1 hin hv rfl dX5_layOpening_145 (fun H locs hP hD hS => ?_)
            refine lv_aload_n hx hb dX5_layOpening_146 rfl (lv_at hl 1 rfl) ?_
            obtain ⟨v36, hq, hg⟩ := bind_ex hg
            refine callRVi (As := []) (rest := []) S hK hP (c_X5_nextDriven l D cI cZ cB cJ A_t A_t_s A_t_aside A_t_snapshot A_t_saved A_t_text A_t_counts A_t_isCut A_t_strength A_t_fails A_t_why A_t_driver A_t_place A_t_isDone V_t_thrown V_t_isKept V_t_savedMany V_t_length V_t_position V_t_isWrong V_t_digested V_t_s f28 f35 f3 v36 hq) [5, 6, 3, 4, 8] rfl (cwV 0 hts gX5_layOpening_X5_nextDriven rfl rfl rfl hd_X5_nextDriven ⟨Nat.le_of_ble_eq_true rfl, Nat.le_of_ble_eq_true rfl⟩) rfl rfl rfl hl.1 rfl (Nat.le_of_ble_eq_true rfl) dX5_layOpening_147 ⟨Nat.zero_le _, Nat.zero_le _⟩ ?_
            refine lv_istore_n (lv' := [(1, .int v36), (0, .ref A_t)]) hx hb dX5_layOpening_150 rfl hl (by decide) rfl (fun ls hl => ?_)
            refine lv_goto (tgt := 123) hx hb dX5_layOpening_151 (by decide) ?_
            exact ih _ _ _ _ _ hP hD hS _ (lv_sub hl [0, 1] rfl) hg
      exact L FU _ _ _ _ _ hP hD hS _ (lv_sub hl [0, 1] rfl) hL
    have L : ∀ (nf : Nat) (v19 : Int32) (f20 : Nat → Int32), ∀ (H : Heap) (locs : List Loc), va_P D vwCl [(A_t_place, .inl (cI, 9, .inl f18)), (A_t_isCut, .inl (cZ, 9, .inl f1)), (A_t_counts, .inl (cZ, 9, .inl f2)), (A_t_driver, .inl (cI, 9, .inl f20)), (A_t_isDone, .inl (cZ, 9, .inl f7)), (A_t, .inr (5, [.int V_t_thrown, .ref A_t_s, .ref A_t_aside, .ref A_t_snapshot, .int V_t_isKept, .ref A_t_saved, .int V_t_savedMany, .ref A_t_text, .int V_t_length, .ref A_t_counts, .ref A_t_isCut, .ref A_t_strength, .ref A_t_fails, .ref A_t_why, .ref A_t_driver, .ref A_t_place, .ref A_t_isDone, .int V_t_position, .int V_t_isWrong, .long V_t_digested])), (A_t_s, .inl (cI, 77, .inl V_t_s)), (A_t_fails, .inl (cZ, 9, .inl f8)), (A_t_strength, .inl (cI, 9, .inl f3)), (A_t_why, .inl (cI, 9, .inl f9))] H → va_D A [(A_t_place, .inl (cI, 9, .inl f18)), (A_t_isCut, .inl (cZ, 9, .inl f1)), (A_t_counts, .inl (cZ, 9, .inl f2)), (A_t_driver, .inl (cI, 9, .inl f20)), (A_t_isDone, .inl (cZ, 9, .inl f7)), (A_t, .inr (5, [.int V_t_thrown, .ref A_t_s, .ref A_t_aside, .ref A_t_snapshot, .int V_t_isKept, .ref A_t_saved, .int V_t_savedMany, .ref A_t_text, .int V_t_length, .ref A_t_counts, .ref A_t_isCut, .ref A_t_strength, .ref A_t_fails, .ref A_t_why, .ref A_t_driver, .ref A_t_place, .ref A_t_isDone, .int V_t_position, .int V_t_isWrong, .long V_t_digested])), (A_t_s, .inl (cI, 77, .inl V_t_s)), (A_t_fails, .inl (cZ, 9, .inl f8)), (A_t_strength, .inl (cI, 9, .inl f3)), (A_t_why, .inl (cI, 9, .inl f9))] → va_S A s.heap H locs → ∀ ls : Array Slot, lv_has ls 3 [(1, .int v19), (0, .ref A_t)] → g_X5_layOpening_L2 V_t_s f8 nf v19 f20 = some f28 → W p l e rX5_layOpening s m args below meth c H locs 0 0 Q (F0 m 58 ls []) := by
      intro nf
      induction nf with
      | zero =>
        intro v19 f20 H locs hP hD hS ls hl hg
        exact no_some hg
      | succ nf ih =>
        intro v19 f20 H locs hP hD hS ls hl hg
        rw [g_X5_layOpening_L2] at hg
        refine lv_iload_n hx hb dX5_layOpening_58 rfl (lv_at hl 0 rfl) ?_
        refine lv_aload_n hx hb dX5_layOpening_59 rfl (lv_at hl 1 rfl) ?_
        refine xget (ci := 5) (C := RX5) (T := TX5) (N := 20) (v := .ref A_t_s) hx hb hts in_X5_layOpening_X5 hown hK hP 5 rfl rfl 1 (by decide) wd_X5_layOpening_1 rfl dX5_layOpening_60 ?_
        refine lv_bipush (v := 9) hx hb dX5_layOpening_63 (by decide) ?_
        obtain ⟨v21, hin, hv, hg⟩ := rdA_ex hg
        refine xiald hx hb hK hP 6 rfl hin hv dX5_layOpening_65 ?_
        refine lv_icmp_ge (tgt := 118) hx hb dX5_layOpening_66 (by decide) (fun hc => ?_) (fun hc => ?_)
        · replace hg := if_yes hg hc
          cases hg
          exact kx _ _ hP hD hS _ (lv_sub hl [1] rfl)
        · replace hg := if_no hg hc
          refine lv_aload_n hx hb dX5_layOpening_69 rfl (lv_at hl 1 rfl) ?_
          refine lv_iload_n hx hb dX5_layOpening_70 rfl (lv_at hl 0 rfl) ?_
          obtain ⟨v22, hq, hg⟩ := bind_ex hg
          refine callRVz (As := [.int v19]) (rest := []) S hK hP (c_X5_stays l D cI cZ cB cJ A_t A_t_s A_t_aside A_t_snapshot A_t_saved A_t_text A_t_counts A_t_isCut A_t_strength A_t_fails A_t_why A_t_driver A_t_place A_t_isDone V_t_thrown V_t_isKept V_t_savedMany V_t_length V_t_position V_t_isWrong V_t_digested V_t_s f8 v19 v22 hq) [5, 6, 7] rfl (cwV 1 hts gX5_layOpening_X5_stays rfl rfl rfl hd_X5_stays ⟨Nat.le_of_ble_eq_true rfl, Nat.le_of_ble_eq_true rfl⟩) rfl rfl rfl hl.1 rfl (Nat.le_of_ble_eq_true rfl) dX5_layOpening_71 ⟨Nat.zero_le _, Nat.zero_le _⟩ (fun hz_v22 => ?_)
          have hJ2 : ∀ (v25 : Int32), ∀ (H : Heap) (locs : List Loc), va_P D vwCl [(A_t_place, .inl (cI, 9, .inl f18)), (A_t_isCut, .inl (cZ, 9, .inl f1)), (A_t_counts, .inl (cZ, 9, .inl f2)), (A_t_driver, .inl (cI, 9, .inl f20)), (A_t_isDone, .inl (cZ, 9, .inl f7)), (A_t, .inr (5, [.int V_t_thrown, .ref A_t_s, .ref A_t_aside, .ref A_t_snapshot, .int V_t_isKept, .ref A_t_saved, .int V_t_savedMany, .ref A_t_text, .int V_t_length, .ref A_t_counts, .ref A_t_isCut, .ref A_t_strength, .ref A_t_fails, .ref A_t_why, .ref A_t_driver, .ref A_t_place, .ref A_t_isDone, .int V_t_position, .int V_t_isWrong, .long V_t_digested])), (A_t_s, .inl (cI, 77, .inl V_t_s)), (A_t_fails, .inl (cZ, 9, .inl f8)), (A_t_strength, .inl (cI, 9, .inl f3)), (A_t_why, .inl (cI, 9, .inl f9))] H → va_D A [(A_t_place, .inl (cI, 9, .inl f18)), (A_t_isCut, .inl (cZ, 9, .inl f1)), (A_t_counts, .inl (cZ, 9, .inl f2)), (A_t_driver, .inl (cI, 9, .inl f20)), (A_t_isDone, .inl (cZ, 9, .inl f7)), (A_t, .inr (5, [.int V_t_thrown, .ref A_t_s, .ref A_t_aside, .ref A_t_snapshot, .int V_t_isKept, .ref A_t_saved, .int V_t_savedMany, .ref A_t_text, .int V_t_length, .ref A_t_counts, .ref A_t_isCut, .ref A_t_strength, .ref A_t_fails, .ref A_t_why, .ref A_t_driver, .ref A_t_place, .ref A_t_isDone, .int V_t_position, .int V_t_isWrong, .long V_t_digested])), (A_t_s, .inl (cI, 77, .inl V_t_s)), (A_t_fails, .inl (cZ, 9, .inl f8)), (A_t_strength, .inl (cI, 9, .inl f3)), (A_t_why, .inl (cI, 9, .inl f9))] → va_S A s.heap H locs → ∀ ls : Array Slot, lv_has ls 3 [(1, .int v19), (0, .ref A_t)] → g_X5_layOpening_J2 v19 f20 V_t_s f8 (g_X5_layOpening_L2 V_t_s f8 nf) v25 = some f28 → W p l e rX5_layOpening s m args below meth c H locs 0 0 Q (F0 m 91 ls [.int v25]) := by
            intro v25 H locs hP hD hS ls hl hg
            unfold g_X5_layOpening_J2 at hg
            refine lv_istore_n (lv' := [(2, .int v25), (1, .int v19), (0, .ref A_t)]) hx hb dX5_layOpening_91 rfl hl (by decide) rfl (fun ls hl => ?_)
            refine lv_iload_n hx hb dX5_layOpening_92 rfl (lv_at hl 0 rfl) ?_
            refine lv_iconst (v := (-1)) hx hb dX5_layOpening_93 (by decide) ?_
            refine lv_icmp_eq (tgt := 112) hx hb dX5_layOpening_94 (by decide) (fun hc => ?_) (fun hc => ?_)
            · replace hg := if_yes hg hc
              refine lv_iinc (v := (v19 + 1)) (lv' := [(1, .int (v19 + 1)), (2, .int v25), (0, .ref A_t)]) hx hb dX5_layOpening_112 hl (k := 1) rfl rfl (by decide) rfl (fun ls hl => ?_)
              refine lv_goto (tgt := 58) hx hb dX5_layOpening_115 (by decide) ?_
              exact ih _ _ _ _ hP hD hS _ (lv_sub hl [0, 2] rfl) hg
            · replace hg := if_no hg hc
              refine lv_aload_n hx hb dX5_layOpening_97 rfl (lv_at hl 2 rfl) ?_
              refine lv_iload_n hx hb dX5_layOpening_98 rfl (lv_at hl 0 rfl) ?_
              obtain ⟨v26, hq, hg⟩ := bind_ex hg
              refine callRVz (As := [.int v25]) (rest := []) S hK hP (c_X5_stays l D cI cZ cB cJ A_t A_t_s A_t_aside A_t_snapshot A_t_saved A_t_text A_t_counts A_t_isCut A_t_strength A_t_fails A_t_why A_t_driver A_t_place A_t_isDone V_t_thrown V_t_isKept V_t_savedMany V_t_length V_t_position V_t_isWrong V_t_digested V_t_s f8 v25 v26 hq) [5, 6, 7] rfl (cwV 1 hts gX5_layOpening_X5_stays rfl rfl rfl hd_X5_stays ⟨Nat.le_of_ble_eq_true rfl, Nat.le_of_ble_eq_true rfl⟩) rfl rfl rfl hl.1 rfl (Nat.le_of_ble_eq_true rfl) dX5_layOpening_99 ⟨Nat.zero_le _, Nat.zero_le _⟩ (fun hz_v26 => ?_)
              refine lv_if_eq (tgt := 112) hx hb dX5_layOpening_102 (by decide) (fun hc => ?_) (fun hc => ?_)
              · replace hg := if_yes hg hc
                refine lv_iinc (v := (v19 + 1)) (lv' := [(1, .int (v19 + 1)), (2, .int v25), (0, .ref A_t)]) hx hb dX5_layOpening_112 hl (k := 1) rfl rfl (by decide) rfl (fun ls hl => ?_)
                refine lv_goto (tgt := 58) hx hb dX5_layOpening_115 (by decide) ?_
                exact ih _ _ _ _ hP hD hS _ (lv_sub hl [0, 2] rfl) hg
              · replace hg := if_no hg hc
                refine lv_aload_n hx hb dX5_layOpening_105 rfl (lv_at hl 2 rfl) ?_
                refine xget (ci := 5) (C := RX5) (T := TX5) (N := 20) (v := .ref A_t_driver) hx hb hts in_X5_layOpening_X5 hown hK hP 5 rfl rfl 14 (by decide) wd_X5_layOpening_3 rfl dX5_layOpening_106 ?_
                refine lv_iload_n hx hb dX5_layOpening_109 rfl (lv_at hl 0 rfl) ?_
                refine lv_iload_n hx hb dX5_layOpening_110 rfl (lv_at hl 1 rfl) ?_
                obtain ⟨f27, hin, hv, hg⟩ := wrA_ex hg
                refine xiast (ws2 := [(A_t_place, .inl (cI, 9, .inl f18)), (A_t_isCut, .inl (cZ, 9, .inl f1)), (A_t_counts, .inl (cZ, 9, .inl f2)), (A_t_driver, .inl (cI, 9, .inl f27)), (A_t_isDone, .inl (cZ, 9, .inl f7)), (A_t, .inr (5, [.int V_t_thrown, .ref A_t_s, .ref A_t_aside, .ref A_t_snapshot, .int V_t_isKept, .ref A_t_saved, .int V_t_savedMany, .ref A_t_text, .int V_t_length, .ref A_t_counts, .ref A_t_isCut, .ref A_t_strength, .ref A_t_fails, .ref A_t_why, .ref A_t_driver, .ref A_t_place, .ref A_t_isDone, .int V_t_position, .int V_t_isWrong, .long V_t_digested])), (A_t_s, .inl (cI, 77, .inl V_t_s)), (A_t_fails, .inl (cZ, 9, .inl f8)), (A_t_strength, .inl (cI, 9, .inl f3)), (A_t_why, .inl (cI, 9, .inl f9))]) hx hb hK hP hD hS 3 rfl hin hv rfl dX5_layOpening_111 (fun H locs hP hD hS => ?_)
                refine lv_iinc (v := (v19 + 1)) (lv' := [(1, .int (v19 + 1)), (2, .int v25), (0, .ref A_t)]) hx hb dX5_layOpening_112 hl (k := 1) rfl rfl (by decide) rfl (fun ls hl => ?_)
                refine lv_goto (tgt := 58) hx hb dX5_layOpening_115 (by decide) ?_
                exact ih _ _ _ _ hP hD hS _ (lv_sub hl [0, 2] rfl) hg
          refine lv_if_eq (tgt := 81) hx hb dX5_layOpening_74 (by decide) (fun hc => ?_) (fun hc => ?_)
          · replace hg := if_yes hg hc
            refine lv_aload_n hx hb dX5_layOpening_81 rfl (lv_at hl 1 rfl) ?_
            refine lv_aload_n hx hb dX5_layOpening_82 rfl (lv_at hl 1 rfl) ?_
            refine lv_iload_n hx hb dX5_layOpening_83 rfl (lv_at hl 0 rfl) ?_
            refine lv_iconst (v := 3) hx hb dX5_layOpening_84 (by decide) ?_
            obtain ⟨v23, hq, hg⟩ := bind_ex hg
            refine callRVi (As := [.int v19, .int 3]) (rest := [.ref A_t]) S hK hP (c_X5_of l D cI cZ cB cJ A_t A_t_s A_t_aside A_t_snapshot A_t_saved A_t_text A_t_counts A_t_isCut A_t_strength A_t_fails A_t_why A_t_driver A_t_place A_t_isDone V_t_thrown V_t_isKept V_t_savedMany V_t_length V_t_position V_t_isWrong V_t_digested V_t_s v19 3 v23 hq) [5, 6] rfl (cwV 2 hts gX5_layOpening_X5_of rfl rfl rfl hd_X5_of ⟨Nat.le_of_ble_eq_true rfl, Nat.le_of_ble_eq_true rfl⟩) rfl rfl rfl hl.1 rfl (Nat.le_of_ble_eq_true rfl) dX5_layOpening_85 ⟨Nat.zero_le _, Nat.zero_le _⟩ ?_
            obtain ⟨v24, hq, hg⟩ := bind_ex hg
            refine callRVi (As := [.int v23]) (rest := []) S hK hP (c_X5_armyOn l D cI cZ cB cJ A_t A_t_s A_t_aside A_t_snapshot A_t_saved A_t_text A_t_counts A_t_isCut A_t_strength A_t_fails A_t_why A_t_driver A_t_place A_t_isDone V_t_thrown V_t_isKept V_t_savedMany V_t_length V_t_position V_t_isWrong V_t_digested V_t_s v23 v24 hq) [5, 6] rfl (cwV 1 hts gX5_layOpening_X5_armyOn rfl rfl rfl hd_X5_armyOn ⟨Nat.le_of_ble_eq_true rfl, Nat.le_of_ble_eq_true rfl⟩) rfl rfl rfl hl.1 rfl (Nat.le_of_ble_eq_true rfl) dX5_layOpening_88 ⟨Nat.zero_le _, Nat.zero_le _⟩ ?_
            exact hJ2 _ _ _ hP hD hS _ (lv_sub hl [0, 1] rfl) hg
          · replace hg := if_no hg hc
            refine lv_iconst (v := (-1)) hx hb dX5_layOpening_77 (by decide) ?_
            refine lv_goto (tgt := 91) hx hb dX5_layOpening_78 (by decide) ?_
            exact hJ2 _ _ _ hP hD hS _ (lv_sub hl [0, 1] rfl) hg
    exact L FU _ _ _ _ hP hD hS _ (lv_sub hl [0, 1] rfl) hL
  have L : ∀ (nf : Nat) (v10 : Int32) (f11 : Nat → Int32), ∀ (H : Heap) (locs : List Loc), va_P D vwCl [(A_t_place, .inl (cI, 9, .inl f11)), (A_t_isCut, .inl (cZ, 9, .inl f1)), (A_t_counts, .inl (cZ, 9, .inl f2)), (A_t_driver, .inl (cI, 9, .inl f5)), (A_t_isDone, .inl (cZ, 9, .inl f7)), (A_t, .inr (5, [.int V_t_thrown, .ref A_t_s, .ref A_t_aside, .ref A_t_snapshot, .int V_t_isKept, .ref A_t_saved, .int V_t_savedMany, .ref A_t_text, .int V_t_length, .ref A_t_counts, .ref A_t_isCut, .ref A_t_strength, .ref A_t_fails, .ref A_t_why, .ref A_t_driver, .ref A_t_place, .ref A_t_isDone, .int V_t_position, .int V_t_isWrong, .long V_t_digested])), (A_t_s, .inl (cI, 77, .inl V_t_s)), (A_t_fails, .inl (cZ, 9, .inl f8)), (A_t_strength, .inl (cI, 9, .inl f3)), (A_t_why, .inl (cI, 9, .inl f9))] H → va_D A [(A_t_place, .inl (cI, 9, .inl f11)), (A_t_isCut, .inl (cZ, 9, .inl f1)), (A_t_counts, .inl (cZ, 9, .inl f2)), (A_t_driver, .inl (cI, 9, .inl f5)), (A_t_isDone, .inl (cZ, 9, .inl f7)), (A_t, .inr (5, [.int V_t_thrown, .ref A_t_s, .ref A_t_aside, .ref A_t_snapshot, .int V_t_isKept, .ref A_t_saved, .int V_t_savedMany, .ref A_t_text, .int V_t_length, .ref A_t_counts, .ref A_t_isCut, .ref A_t_strength, .ref A_t_fails, .ref A_t_why, .ref A_t_driver, .ref A_t_place, .ref A_t_isDone, .int V_t_position, .int V_t_isWrong, .long V_t_digested])), (A_t_s, .inl (cI, 77, .inl V_t_s)), (A_t_fails, .inl (cZ, 9, .inl f8)), (A_t_strength, .inl (cI, 9, .inl f3)), (A_t_why, .inl (cI, 9, .inl f9))] → va_S A s.heap H locs → ∀ ls : Array Slot, lv_has ls 3 [(1, .int v10), (0, .ref A_t)] → g_X5_layOpening_L1 V_t_s f8 nf v10 f11 = some f18 → W p l e rX5_layOpening s m args below meth c H locs 0 0 Q (F0 m 10 ls []) := by
    intro nf
    induction nf with
    | zero =>
      intro v10 f11 H locs hP hD hS ls hl hg
      exact no_some hg
    | succ nf ih =>
      intro v10 f11 H locs hP hD hS ls hl hg
      rw [g_X5_layOpening_L1] at hg
      refine lv_iload_n hx hb dX5_layOpening_10 rfl (lv_at hl 0 rfl) ?_
      refine lv_aload_n hx hb dX5_layOpening_11 rfl (lv_at hl 1 rfl) ?_
      refine xget (ci := 5) (C := RX5) (T := TX5) (N := 20) (v := .ref A_t_s) hx hb hts in_X5_layOpening_X5 hown hK hP 5 rfl rfl 1 (by decide) wd_X5_layOpening_1 rfl dX5_layOpening_12 ?_
      refine lv_bipush (v := 9) hx hb dX5_layOpening_15 (by decide) ?_
      obtain ⟨v12, hin, hv, hg⟩ := rdA_ex hg
      refine xiald hx hb hK hP 6 rfl hin hv dX5_layOpening_17 ?_
      refine lv_icmp_ge (tgt := 56) hx hb dX5_layOpening_18 (by decide) (fun hc => ?_) (fun hc => ?_)
      · replace hg := if_yes hg hc
        cases hg
        exact kx _ _ hP hD hS _ (lv_sub hl [1] rfl)
      · replace hg := if_no hg hc
        refine lv_aload_n hx hb dX5_layOpening_21 rfl (lv_at hl 1 rfl) ?_
        refine xget (ci := 5) (C := RX5) (T := TX5) (N := 20) (v := .ref A_t_place) hx hb hts in_X5_layOpening_X5 hown hK hP 5 rfl rfl 15 (by decide) wd_X5_layOpening_2 rfl dX5_layOpening_22 ?_
        refine lv_iload_n hx hb dX5_layOpening_25 rfl (lv_at hl 0 rfl) ?_
        refine lv_aload_n hx hb dX5_layOpening_26 rfl (lv_at hl 1 rfl) ?_
        refine lv_iload_n hx hb dX5_layOpening_27 rfl (lv_at hl 0 rfl) ?_
        obtain ⟨v13, hq, hg⟩ := bind_ex hg
        refine callRVz (As := [.int v10]) (rest := [.int v10, .ref A_t_place]) S hK hP (c_X5_stays l D cI cZ cB cJ A_t A_t_s A_t_aside A_t_snapshot A_t_saved A_t_text A_t_counts A_t_isCut A_t_strength A_t_fails A_t_why A_t_driver A_t_place A_t_isDone V_t_thrown V_t_isKept V_t_savedMany V_t_length V_t_position V_t_isWrong V_t_digested V_t_s f8 v10 v13 hq) [5, 6, 7] rfl (cwV 1 hts gX5_layOpening_X5_stays rfl rfl rfl hd_X5_stays ⟨Nat.le_of_ble_eq_true rfl, Nat.le_of_ble_eq_true rfl⟩) rfl rfl rfl hl.1 rfl (Nat.le_of_ble_eq_true rfl) dX5_layOpening_28 ⟨Nat.zero_le _, Nat.zero_le _⟩ (fun hz_v13 => ?_)
        have hJ1 : ∀ (v16 : Int32), ∀ (H : Heap) (locs : List Loc), va_P D vwCl [(A_t_place, .inl (cI, 9, .inl f11)), (A_t_isCut, .inl (cZ, 9, .inl f1)), (A_t_counts, .inl (cZ, 9, .inl f2)), (A_t_driver, .inl (cI, 9, .inl f5)), (A_t_isDone, .inl (cZ, 9, .inl f7)), (A_t, .inr (5, [.int V_t_thrown, .ref A_t_s, .ref A_t_aside, .ref A_t_snapshot, .int V_t_isKept, .ref A_t_saved, .int V_t_savedMany, .ref A_t_text, .int V_t_length, .ref A_t_counts, .ref A_t_isCut, .ref A_t_strength, .ref A_t_fails, .ref A_t_why, .ref A_t_driver, .ref A_t_place, .ref A_t_isDone, .int V_t_position, .int V_t_isWrong, .long V_t_digested])), (A_t_s, .inl (cI, 77, .inl V_t_s)), (A_t_fails, .inl (cZ, 9, .inl f8)), (A_t_strength, .inl (cI, 9, .inl f3)), (A_t_why, .inl (cI, 9, .inl f9))] H → va_D A [(A_t_place, .inl (cI, 9, .inl f11)), (A_t_isCut, .inl (cZ, 9, .inl f1)), (A_t_counts, .inl (cZ, 9, .inl f2)), (A_t_driver, .inl (cI, 9, .inl f5)), (A_t_isDone, .inl (cZ, 9, .inl f7)), (A_t, .inr (5, [.int V_t_thrown, .ref A_t_s, .ref A_t_aside, .ref A_t_snapshot, .int V_t_isKept, .ref A_t_saved, .int V_t_savedMany, .ref A_t_text, .int V_t_length, .ref A_t_counts, .ref A_t_isCut, .ref A_t_strength, .ref A_t_fails, .ref A_t_why, .ref A_t_driver, .ref A_t_place, .ref A_t_isDone, .int V_t_position, .int V_t_isWrong, .long V_t_digested])), (A_t_s, .inl (cI, 77, .inl V_t_s)), (A_t_fails, .inl (cZ, 9, .inl f8)), (A_t_strength, .inl (cI, 9, .inl f3)), (A_t_why, .inl (cI, 9, .inl f9))] → va_S A s.heap H locs → ∀ ls : Array Slot, lv_has ls 3 [(1, .int v10), (0, .ref A_t)] → g_X5_layOpening_J1 f11 v10 (g_X5_layOpening_L1 V_t_s f8 nf) v16 = some f18 → W p l e rX5_layOpening s m args below meth c H locs 0 0 Q (F0 m 49 ls [.int v16, .int v10, .ref A_t_place]) := by
          intro v16 H locs hP hD hS ls hl hg
          unfold g_X5_layOpening_J1 at hg
          obtain ⟨f17, hin, hv, hg⟩ := wrA_ex hg
          refine xiast (ws2 := [(A_t_place, .inl (cI, 9, .inl f17)), (A_t_isCut, .inl (cZ, 9, .inl f1)), (A_t_counts, .inl (cZ, 9, .inl f2)), (A_t_driver, .inl (cI, 9, .inl f5)), (A_t_isDone, .inl (cZ, 9, .inl f7)), (A_t, .inr (5, [.int V_t_thrown, .ref A_t_s, .ref A_t_aside, .ref A_t_snapshot, .int V_t_isKept, .ref A_t_saved, .int V_t_savedMany, .ref A_t_text, .int V_t_length, .ref A_t_counts, .ref A_t_isCut, .ref A_t_strength, .ref A_t_fails, .ref A_t_why, .ref A_t_driver, .ref A_t_place, .ref A_t_isDone, .int V_t_position, .int V_t_isWrong, .long V_t_digested])), (A_t_s, .inl (cI, 77, .inl V_t_s)), (A_t_fails, .inl (cZ, 9, .inl f8)), (A_t_strength, .inl (cI, 9, .inl f3)), (A_t_why, .inl (cI, 9, .inl f9))]) hx hb hK hP hD hS 0 rfl hin hv rfl dX5_layOpening_49 (fun H locs hP hD hS => ?_)
          refine lv_iinc (v := (v10 + 1)) (lv' := [(1, .int (v10 + 1)), (0, .ref A_t)]) hx hb dX5_layOpening_50 hl (k := 0) rfl rfl (by decide) rfl (fun ls hl => ?_)
          refine lv_goto (tgt := 10) hx hb dX5_layOpening_53 (by decide) ?_
          exact ih _ _ _ _ hP hD hS _ (lv_sub hl [0, 1] rfl) hg
        refine lv_if_eq (tgt := 43) hx hb dX5_layOpening_31 (by decide) (fun hc => ?_) (fun hc => ?_)
        · replace hg := if_yes hg hc
          refine lv_aload_n hx hb dX5_layOpening_43 rfl (lv_at hl 1 rfl) ?_
          refine lv_iload_n hx hb dX5_layOpening_44 rfl (lv_at hl 0 rfl) ?_
          refine lv_iconst (v := 3) hx hb dX5_layOpening_45 (by decide) ?_
          obtain ⟨v14, hq, hg⟩ := bind_ex hg
          refine callRVi (As := [.int v10, .int 3]) (rest := [.int v10, .ref A_t_place]) S hK hP (c_X5_of l D cI cZ cB cJ A_t A_t_s A_t_aside A_t_snapshot A_t_saved A_t_text A_t_counts A_t_isCut A_t_strength A_t_fails A_t_why A_t_driver A_t_place A_t_isDone V_t_thrown V_t_isKept V_t_savedMany V_t_length V_t_position V_t_isWrong V_t_digested V_t_s v10 3 v14 hq) [5, 6] rfl (cwV 2 hts gX5_layOpening_X5_of rfl rfl rfl hd_X5_of ⟨Nat.le_of_ble_eq_true rfl, Nat.le_of_ble_eq_true rfl⟩) rfl rfl rfl hl.1 rfl (Nat.le_of_ble_eq_true rfl) dX5_layOpening_46 ⟨Nat.zero_le _, Nat.zero_le _⟩ ?_
          exact hJ1 _ _ _ hP hD hS _ (lv_sub hl [0, 1] rfl) hg
        · replace hg := if_no hg hc
          refine lv_aload_n hx hb dX5_layOpening_34 rfl (lv_at hl 1 rfl) ?_
          refine lv_iload_n hx hb dX5_layOpening_35 rfl (lv_at hl 0 rfl) ?_
          refine lv_iconst (v := 1) hx hb dX5_layOpening_36 (by decide) ?_
          obtain ⟨v15, hq, hg⟩ := bind_ex hg
          refine callRVi (As := [.int v10, .int 1]) (rest := [.int v10, .ref A_t_place]) S hK hP (c_X5_of l D cI cZ cB cJ A_t A_t_s A_t_aside A_t_snapshot A_t_saved A_t_text A_t_counts A_t_isCut A_t_strength A_t_fails A_t_why A_t_driver A_t_place A_t_isDone V_t_thrown V_t_isKept V_t_savedMany V_t_length V_t_position V_t_isWrong V_t_digested V_t_s v10 1 v15 hq) [5, 6] rfl (cwV 2 hts gX5_layOpening_X5_of rfl rfl rfl hd_X5_of ⟨Nat.le_of_ble_eq_true rfl, Nat.le_of_ble_eq_true rfl⟩) rfl rfl rfl hl.1 rfl (Nat.le_of_ble_eq_true rfl) dX5_layOpening_37 ⟨Nat.zero_le _, Nat.zero_le _⟩ ?_
          refine lv_goto (tgt := 49) hx hb dX5_layOpening_40 (by decide) ?_
          exact hJ1 _ _ _ hP hD hS _ (lv_sub hl [0, 1] rfl) hg
  exact L FU _ _ _ _ hP hD hS _ (lv_sub hl [0, 1] rfl) hL
theorem hd_X5_goes : yX5_goes.cls = RX5 ∧ yX5_goes.cls ≠ "java/lang/invoke/MethodHandle" ∧ yX5_goes.cls ≠ "java/lang/invoke/VarHandle" ∧ (parseMethodDescriptor yX5_goes.desc).map (fun d => d.parameters.length) = some 1 := by decide +kernel
theorem in_X5_goes_X5 : ∀ w ∈ u_ws RX5 TX5 20, w ∈ wsX5_goes := fun _ h => List.mem_cons_of_mem _ (List.mem_append_right _ h)
theorem wd_X5_goes_1 : Cond.fieldLink RX5 7 "FogOrdersModel" "s" "[I" ∈ wsX5_goes := List.mem_of_getElem? (i := 1) rfl
abbrev rX5_goes : Room := { frames := 1, cells := 0, slots := 0, locals := 21 }
set_option maxHeartbeats 4000000 in
set_option maxRecDepth 100000 in
theorem c_X5_goes (l : Launch) (D : va_G) (cI cZ cB cJ : ClassId) (A_t : Nat) (A_t_s : Nat) (A_t_aside : Nat) (A_t_snapshot : Nat) (A_t_saved : Nat) (A_t_text : Nat) (A_t_counts : Nat) (A_t_isCut : Nat) (A_t_strength : Nat) (A_t_fails : Nat) (A_t_why : Nat) (A_t_driver : Nat) (A_t_place : Nat) (A_t_isDone : Nat) (sz : Nat) (V_t_thrown : Int32) (V_t_isKept : Int32) (V_t_savedMany : Int32) (V_t_length : Int32) (V_t_position : Int32) (V_t_isWrong : Int32) (V_t_digested : Int64) (V_t_s : Nat → Int32) (x1 : Int32) (w1 : Nat → Int32) (hg : g_X5_goes V_t_s x1 = some w1) : Met l yX5_goes wsX5_goes rX5_goes (PcW D cI cZ cB cJ sz [(A_t, .inr (5, [.int V_t_thrown, .ref A_t_s, .ref A_t_aside, .ref A_t_snapshot, .int V_t_isKept, .ref A_t_saved, .int V_t_savedMany, .ref A_t_text, .int V_t_length, .ref A_t_counts, .ref A_t_isCut, .ref A_t_strength, .ref A_t_fails, .ref A_t_why, .ref A_t_driver, .ref A_t_place, .ref A_t_isDone, .int V_t_position, .int V_t_isWrong, .long V_t_digested])), (A_t_s, .inl (cI, 77, .inl V_t_s))] [.ref A_t, .int x1]) (QWv D cI cZ cB cJ sz [(A_t, .inr (5, [.int V_t_thrown, .ref A_t_s, .ref A_t_aside, .ref A_t_snapshot, .int V_t_isKept, .ref A_t_saved, .int V_t_savedMany, .ref A_t_text, .int V_t_length, .ref A_t_counts, .ref A_t_isCut, .ref A_t_strength, .ref A_t_fails, .ref A_t_why, .ref A_t_driver, .ref A_t_place, .ref A_t_isDone, .int V_t_position, .int V_t_isWrong, .long V_t_digested])), (A_t_s, .inl (cI, 77, .inl V_t_s))] [(A_t, .inr (5, [.int V_t_thrown, .ref A_t_s, .ref A_t_aside, .ref A_t_snapshot, .int V_t_isKept, .ref A_t_saved, .int V_t_savedMany, .ref A_t_text, .int V_t_length, .ref A_t_counts, .ref A_t_isCut, .ref A_t_strength, .ref A_t_fails, .ref A_t_why, .ref A_t_driver, .ref A_t_place, .ref A_t_isDone, .int V_t_position, .int V_t_isWrong, .long V_t_digested])), (A_t_s, .inl (cI, 77, .inl w1))]) 0 0 (va_A [(A_t, .inr (5, [.int V_t_thrown, .ref A_t_s, .ref A_t_aside, .ref A_t_snapshot, .int V_t_isKept, .ref A_t_saved, .int V_t_savedMany, .ref A_t_text, .int V_t_length, .ref A_t_counts, .ref A_t_isCut, .ref A_t_strength, .ref A_t_fails, .ref A_t_why, .ref A_t_driver, .ref A_t_place, .ref A_t_isDone, .int V_t_position, .int V_t_isWrong, .long V_t_digested])), (A_t_s, .inl (cI, 77, .inl V_t_s))] sz) := by
  refine bodyWv (cc := cX5_goes) (maxL := 3) (lv := [(0, .ref A_t), (1, .int x1)]) (by decide) rfl (Nat.le_of_ble_eq_true rfl) rfl ?_
  intro p e s m args below meth c Q hx hb hml hown hts A hP hK hD hA hS fin ls hl
  replace hown : s.vm.findClass RX5 = some m.cls := hown
  have S : CallFix p m c cX5_goes 3 s args wsX5_goes RX5 := ⟨hx, hb, hml, hown, hts⟩
  unfold g_X5_goes at hg
  refine lv_aload_n hx hb dX5_goes_0 rfl (lv_at hl 0 rfl) ?_
  refine xget (ci := 5) (C := RX5) (T := TX5) (N := 20) (v := .ref A_t_s) hx hb hts in_X5_goes_X5 hown hK hP 0 rfl rfl 1 (by decide) wd_X5_goes_1 rfl dX5_goes_1 ?_
  refine lv_bipush (v := 9) hx hb dX5_goes_4 (by decide) ?_
  refine lv_dup2_11 hx hb dX5_goes_6 rfl rfl ?_
  obtain ⟨v1, hin, hv, hg⟩ := rdA_ex hg
  refine xiald hx hb hK hP 1 rfl hin hv dX5_goes_7 ?_
  refine lv_iconst (v := 1) hx hb dX5_goes_8 (by decide) ?_
  refine lv_isub hx hb dX5_goes_9 ?_
  obtain ⟨f2, hin, hv, hg⟩ := wrA_ex hg
  refine xiast (ws2 := [(A_t, .inr (5, [.int V_t_thrown, .ref A_t_s, .ref A_t_aside, .ref A_t_snapshot, .int V_t_isKept, .ref A_t_saved, .int V_t_savedMany, .ref A_t_text, .int V_t_length, .ref A_t_counts, .ref A_t_isCut, .ref A_t_strength, .ref A_t_fails, .ref A_t_why, .ref A_t_driver, .ref A_t_place, .ref A_t_isDone, .int V_t_position, .int V_t_isWrong, .long V_t_digested])), (A_t_s, .inl (cI, 77, .inl f2))]) hx hb hK hP hD hS 1 rfl hin hv rfl dX5_goes_10 (fun H locs hP hD hS => ?_)
  refine lv_iload_n hx hb dX5_goes_11 rfl (lv_at hl 1 rfl) ?_
  refine lv_iconst (v := 0) hx hb dX5_goes_12 (by decide) ?_
  obtain ⟨v3, hq, hg⟩ := bind_ex hg
  refine callRSi (As := [.int x1, .int 0]) (rest := []) S hK hP (c_X5_at l D cI cZ cB cJ x1 0 v3 hq) [] rfl (va_cwS 2 hts gX5_goes_X5_at rfl rfl rfl hd_X5_at ⟨Nat.le_of_ble_eq_true rfl, Nat.le_of_ble_eq_true rfl⟩) rfl hl.1 rfl (Nat.le_of_ble_eq_true rfl) dX5_goes_13 ⟨Nat.zero_le _, Nat.zero_le _⟩ ?_
  refine lv_istore_n (lv' := [(2, .int v3), (0, .ref A_t), (1, .int x1)]) hx hb dX5_goes_16 rfl hl (by decide) rfl (fun ls hl => ?_)
  obtain ⟨f10, hL, hg⟩ := bind_ex hg
  have kx : ∀ (H : Heap) (locs : List Loc), va_P D vwCl [(A_t, .inr (5, [.int V_t_thrown, .ref A_t_s, .ref A_t_aside, .ref A_t_snapshot, .int V_t_isKept, .ref A_t_saved, .int V_t_savedMany, .ref A_t_text, .int V_t_length, .ref A_t_counts, .ref A_t_isCut, .ref A_t_strength, .ref A_t_fails, .ref A_t_why, .ref A_t_driver, .ref A_t_place, .ref A_t_isDone, .int V_t_position, .int V_t_isWrong, .long V_t_digested])), (A_t_s, .inl (cI, 77, .inl f10))] H → va_D A [(A_t, .inr (5, [.int V_t_thrown, .ref A_t_s, .ref A_t_aside, .ref A_t_snapshot, .int V_t_isKept, .ref A_t_saved, .int V_t_savedMany, .ref A_t_text, .int V_t_length, .ref A_t_counts, .ref A_t_isCut, .ref A_t_strength, .ref A_t_fails, .ref A_t_why, .ref A_t_driver, .ref A_t_place, .ref A_t_isDone, .int V_t_position, .int V_t_isWrong, .long V_t_digested])), (A_t_s, .inl (cI, 77, .inl f10))] → va_S A s.heap H locs → ∀ ls : Array Slot, lv_has ls 3 [(0, .ref A_t)] → W p l e rX5_goes s m args below meth c H locs 0 0 Q (F0 m 53 ls []) := by
    intro H locs hP hD hS ls hl
    refine lv_iconst (v := 0) hx hb dX5_goes_53 (by decide) ?_
    refine lv_istore_n (lv' := [(2, .int 0), (0, .ref A_t)]) hx hb dX5_goes_54 rfl hl (by decide) rfl (fun ls hl => ?_)
    obtain ⟨f16, hL, hg⟩ := bind_ex hg
    have kx : ∀ (H : Heap) (locs : List Loc), va_P D vwCl [(A_t, .inr (5, [.int V_t_thrown, .ref A_t_s, .ref A_t_aside, .ref A_t_snapshot, .int V_t_isKept, .ref A_t_saved, .int V_t_savedMany, .ref A_t_text, .int V_t_length, .ref A_t_counts, .ref A_t_isCut, .ref A_t_strength, .ref A_t_fails, .ref A_t_why, .ref A_t_driver, .ref A_t_place, .ref A_t_isDone, .int V_t_position, .int V_t_isWrong, .long V_t_digested])), (A_t_s, .inl (cI, 77, .inl f16))] H → va_D A [(A_t, .inr (5, [.int V_t_thrown, .ref A_t_s, .ref A_t_aside, .ref A_t_snapshot, .int V_t_isKept, .ref A_t_saved, .int V_t_savedMany, .ref A_t_text, .int V_t_length, .ref A_t_counts, .ref A_t_isCut, .ref A_t_strength, .ref A_t_fails, .ref A_t_why, .ref A_t_driver, .ref A_t_place, .ref A_t_isDone, .int V_t_position, .int V_t_isWrong, .long V_t_digested])), (A_t_s, .inl (cI, 77, .inl f16))] → va_S A s.heap H locs → ∀ ls : Array Slot, lv_has ls 3 [] → W p l e rX5_goes s m args below meth c H locs 0 0 Q (F0 m 84 ls []) := by
      intro H locs hP hD hS ls hl
      cases hg
      exact fin _ _ _ _ dX5_goes_84 hP hD hS
    have L : ∀ (nf : Nat) (v11 : Int32) (f12 : Nat → Int32), ∀ (H : Heap) (locs : List Loc), va_P D vwCl [(A_t, .inr (5, [.int V_t_thrown, .ref A_t_s, .ref A_t_aside, .ref A_t_snapshot, .int V_t_isKept, .ref A_t_saved, .int V_t_savedMany, .ref A_t_text, .int V_t_length, .ref A_t_counts, .ref A_t_isCut, .ref A_t_strength, .ref A_t_fails, .ref A_t_why, .ref A_t_driver, .ref A_t_place, .ref A_t_isDone, .int V_t_position, .int V_t_isWrong, .long V_t_digested])), (A_t_s, .inl (cI, 77, .inl f12))] H → va_D A [(A_t, .inr (5, [.int V_t_thrown, .ref A_t_s, .ref A_t_aside, .ref A_t_snapshot, .int V_t_isKept, .ref A_t_saved, .int V_t_savedMany, .ref A_t_text, .int V_t_length, .ref A_t_counts, .ref A_t_isCut, .ref A_t_strength, .ref A_t_fails, .ref A_t_why, .ref A_t_driver, .ref A_t_place, .ref A_t_isDone, .int V_t_position, .int V_t_isWrong, .long V_t_digested])), (A_t_s, .inl (cI, 77, .inl f12))] → va_S A s.heap H locs → ∀ ls : Array Slot, lv_has ls 3 [(2, .int v11), (0, .ref A_t)] → g_X5_goes_L2 nf v11 f12 = some f16 → W p l e rX5_goes s m args below meth c H locs 0 0 Q (F0 m 55 ls []) := by
      intro nf
      induction nf with
      | zero =>
        intro v11 f12 H locs hP hD hS ls hl hg
        exact no_some hg
      | succ nf ih =>
        intro v11 f12 H locs hP hD hS ls hl hg
        rw [g_X5_goes_L2] at hg
        refine lv_iload_n hx hb dX5_goes_55 rfl (lv_at hl 0 rfl) ?_
        refine lv_bipush (v := 7) hx hb dX5_goes_56 (by decide) ?_
        refine lv_icmp_ge (tgt := 84) hx hb dX5_goes_58 (by decide) (fun hc => ?_) (fun hc => ?_)
        · replace hg := if_yes hg hc
          cases hg
          exact kx _ _ hP hD hS _ (lv_sub hl [] rfl)
        · replace hg := if_no hg hc
          refine lv_aload_n hx hb dX5_goes_61 rfl (lv_at hl 1 rfl) ?_
          refine xget (ci := 5) (C := RX5) (T := TX5) (N := 20) (v := .ref A_t_s) hx hb hts in_X5_goes_X5 hown hK hP 0 rfl rfl 1 (by decide) wd_X5_goes_1 rfl dX5_goes_62 ?_
          refine lv_aload_n hx hb dX5_goes_65 rfl (lv_at hl 1 rfl) ?_
          refine xget (ci := 5) (C := RX5) (T := TX5) (N := 20) (v := .ref A_t_s) hx hb hts in_X5_goes_X5 hown hK hP 0 rfl rfl 1 (by decide) wd_X5_goes_1 rfl dX5_goes_66 ?_
          refine lv_bipush (v := 9) hx hb dX5_goes_69 (by decide) ?_
          obtain ⟨v13, hin, hv, hg⟩ := rdA_ex hg
          refine xiald hx hb hK hP 1 rfl hin hv dX5_goes_71 ?_
          refine lv_iload_n hx hb dX5_goes_72 rfl (lv_at hl 0 rfl) ?_
          obtain ⟨v14, hq, hg⟩ := bind_ex hg
          refine callRSi (As := [.int v13, .int v11]) (rest := [.ref A_t_s]) S hK hP (c_X5_at l D cI cZ cB cJ v13 v11 v14 hq) [] rfl (va_cwS 2 hts gX5_goes_X5_at rfl rfl rfl hd_X5_at ⟨Nat.le_of_ble_eq_true rfl, Nat.le_of_ble_eq_true rfl⟩) rfl hl.1 rfl (Nat.le_of_ble_eq_true rfl) dX5_goes_73 ⟨Nat.zero_le _, Nat.zero_le _⟩ ?_
          refine lv_iconst (v := 0) hx hb dX5_goes_76 (by decide) ?_
          obtain ⟨f15, hin, hv, hg⟩ := wrA_ex hg
          refine xiast (ws2 := [(A_t, .inr (5, [.int V_t_thrown, .ref A_t_s, .ref A_t_aside, .ref A_t_snapshot, .int V_t_isKept, .ref A_t_saved, .int V_t_savedMany, .ref A_t_text, .int V_t_length, .ref A_t_counts, .ref A_t_isCut, .ref A_t_strength, .ref A_t_fails, .ref A_t_why, .ref A_t_driver, .ref A_t_place, .ref A_t_isDone, .int V_t_position, .int V_t_isWrong, .long V_t_digested])), (A_t_s, .inl (cI, 77, .inl f15))]) hx hb hK hP hD hS 1 rfl hin hv rfl dX5_goes_77 (fun H locs hP hD hS => ?_)
          refine lv_iinc (v := (v11 + 1)) (lv' := [(2, .int (v11 + 1)), (0, .ref A_t)]) hx hb dX5_goes_78 hl (k := 0) rfl rfl (by decide) rfl (fun ls hl => ?_)
          refine lv_goto (tgt := 55) hx hb dX5_goes_81 (by decide) ?_
          exact ih _ _ _ _ hP hD hS _ (lv_sub hl [0, 1] rfl) hg
    exact L FU _ _ _ _ hP hD hS _ (lv_sub hl [0, 1] rfl) hL
  have L : ∀ (nf : Nat) (v4 : Int32) (f5 : Nat → Int32), ∀ (H : Heap) (locs : List Loc), va_P D vwCl [(A_t, .inr (5, [.int V_t_thrown, .ref A_t_s, .ref A_t_aside, .ref A_t_snapshot, .int V_t_isKept, .ref A_t_saved, .int V_t_savedMany, .ref A_t_text, .int V_t_length, .ref A_t_counts, .ref A_t_isCut, .ref A_t_strength, .ref A_t_fails, .ref A_t_why, .ref A_t_driver, .ref A_t_place, .ref A_t_isDone, .int V_t_position, .int V_t_isWrong, .long V_t_digested])), (A_t_s, .inl (cI, 77, .inl f5))] H → va_D A [(A_t, .inr (5, [.int V_t_thrown, .ref A_t_s, .ref A_t_aside, .ref A_t_snapshot, .int V_t_isKept, .ref A_t_saved, .int V_t_savedMany, .ref A_t_text, .int V_t_length, .ref A_t_counts, .ref A_t_isCut, .ref A_t_strength, .ref A_t_fails, .ref A_t_why, .ref A_t_driver, .ref A_t_place, .ref A_t_isDone, .int V_t_position, .int V_t_isWrong, .long V_t_digested])), (A_t_s, .inl (cI, 77, .inl f5))] → va_S A s.heap H locs → ∀ ls : Array Slot, lv_has ls 3 [(2, .int v4), (0, .ref A_t)] → g_X5_goes_L1 nf v4 f5 = some f10 → W p l e rX5_goes s m args below meth c H locs 0 0 Q (F0 m 17 ls []) := by
    intro nf
    induction nf with
    | zero =>
      intro v4 f5 H locs hP hD hS ls hl hg
      exact no_some hg
    | succ nf ih =>
      intro v4 f5 H locs hP hD hS ls hl hg
      rw [g_X5_goes_L1] at hg
      refine lv_iload_n hx hb dX5_goes_17 rfl (lv_at hl 0 rfl) ?_
      refine lv_aload_n hx hb dX5_goes_18 rfl (lv_at hl 1 rfl) ?_
      refine xget (ci := 5) (C := RX5) (T := TX5) (N := 20) (v := .ref A_t_s) hx hb hts in_X5_goes_X5 hown hK hP 0 rfl rfl 1 (by decide) wd_X5_goes_1 rfl dX5_goes_19 ?_
      refine lv_bipush (v := 9) hx hb dX5_goes_22 (by decide) ?_
      obtain ⟨v6, hin, hv, hg⟩ := rdA_ex hg
      refine xiald hx hb hK hP 1 rfl hin hv dX5_goes_24 ?_
      refine lv_iconst (v := 0) hx hb dX5_goes_25 (by decide) ?_
      obtain ⟨v7, hq, hg⟩ := bind_ex hg
      refine callRSi (As := [.int v6, .int 0]) (rest := [.int v4]) S hK hP (c_X5_at l D cI cZ cB cJ v6 0 v7 hq) [] rfl (va_cwS 2 hts gX5_goes_X5_at rfl rfl rfl hd_X5_at ⟨Nat.le_of_ble_eq_true rfl, Nat.le_of_ble_eq_true rfl⟩) rfl hl.1 rfl (Nat.le_of_ble_eq_true rfl) dX5_goes_26 ⟨Nat.zero_le _, Nat.zero_le _⟩ ?_
      refine lv_icmp_ge (tgt := 53) hx hb dX5_goes_29 (by decide) (fun hc => ?_) (fun hc => ?_)
      · replace hg := if_yes hg hc
        cases hg
        exact kx _ _ hP hD hS _ (lv_sub hl [1] rfl)
      · replace hg := if_no hg hc
        refine lv_aload_n hx hb dX5_goes_32 rfl (lv_at hl 1 rfl) ?_
        refine xget (ci := 5) (C := RX5) (T := TX5) (N := 20) (v := .ref A_t_s) hx hb hts in_X5_goes_X5 hown hK hP 0 rfl rfl 1 (by decide) wd_X5_goes_1 rfl dX5_goes_33 ?_
        refine lv_iload_n hx hb dX5_goes_36 rfl (lv_at hl 0 rfl) ?_
        refine lv_aload_n hx hb dX5_goes_37 rfl (lv_at hl 1 rfl) ?_
        refine xget (ci := 5) (C := RX5) (T := TX5) (N := 20) (v := .ref A_t_s) hx hb hts in_X5_goes_X5 hown hK hP 0 rfl rfl 1 (by decide) wd_X5_goes_1 rfl dX5_goes_38 ?_
        refine lv_iload_n hx hb dX5_goes_41 rfl (lv_at hl 0 rfl) ?_
        refine lv_bipush (v := 7) hx hb dX5_goes_42 (by decide) ?_
        refine lv_iadd hx hb dX5_goes_44 ?_
        obtain ⟨v8, hin, hv, hg⟩ := rdA_ex hg
        refine xiald hx hb hK hP 1 rfl hin hv dX5_goes_45 ?_
        obtain ⟨f9, hin, hv, hg⟩ := wrA_ex hg
        refine xiast (ws2 := [(A_t, .inr (5, [.int V_t_thrown, .ref A_t_s, .ref A_t_aside, .ref A_t_snapshot, .int V_t_isKept, .ref A_t_saved, .int V_t_savedMany, .ref A_t_text, .int V_t_length, .ref A_t_counts, .ref A_t_isCut, .ref A_t_strength, .ref A_t_fails, .ref A_t_why, .ref A_t_driver, .ref A_t_place, .ref A_t_isDone, .int V_t_position, .int V_t_isWrong, .long V_t_digested])), (A_t_s, .inl (cI, 77, .inl f9))]) hx hb hK hP hD hS 1 rfl hin hv rfl dX5_goes_46 (fun H locs hP hD hS => ?_)
        refine lv_iinc (v := (v4 + 1)) (lv' := [(2, .int (v4 + 1)), (0, .ref A_t)]) hx hb dX5_goes_47 hl (k := 0) rfl rfl (by decide) rfl (fun ls hl => ?_)
        refine lv_goto (tgt := 17) hx hb dX5_goes_50 (by decide) ?_
        exact ih _ _ _ _ hP hD hS _ (lv_sub hl [0, 1] rfl) hg
  exact L FU _ _ _ _ hP hD hS _ (lv_sub hl [0, 1] rfl) hL
theorem hd_X5_lays : yX5_lays.cls = RX5 ∧ yX5_lays.cls ≠ "java/lang/invoke/MethodHandle" ∧ yX5_lays.cls ≠ "java/lang/invoke/VarHandle" ∧ (parseMethodDescriptor yX5_lays.desc).map (fun d => d.parameters.length) = some 4 := by decide +kernel
theorem in_X5_lays_X5 : ∀ w ∈ u_ws RX5 TX5 20, w ∈ wsX5_lays := fun _ h => List.mem_cons_of_mem _ (List.mem_append_right _ h)
theorem wd_X5_lays_1 : Cond.fieldLink RX5 7 "FogOrdersModel" "s" "[I" ∈ wsX5_lays := List.mem_of_getElem? (i := 1) rfl
abbrev rX5_lays : Room := { frames := 1, cells := 0, slots := 0, locals := 21 }
set_option maxHeartbeats 4000000 in
set_option maxRecDepth 100000 in
theorem c_X5_lays (l : Launch) (D : va_G) (cI cZ cB cJ : ClassId) (A_t : Nat) (A_t_s : Nat) (A_t_aside : Nat) (A_t_snapshot : Nat) (A_t_saved : Nat) (A_t_text : Nat) (A_t_counts : Nat) (A_t_isCut : Nat) (A_t_strength : Nat) (A_t_fails : Nat) (A_t_why : Nat) (A_t_driver : Nat) (A_t_place : Nat) (A_t_isDone : Nat) (sz : Nat) (V_t_thrown : Int32) (V_t_isKept : Int32) (V_t_savedMany : Int32) (V_t_length : Int32) (V_t_position : Int32) (V_t_isWrong : Int32) (V_t_digested : Int64) (V_t_s : Nat → Int32) (x1 : Int32) (x2 : Int32) (x3 : Int32) (x4 : Int32) (w1 : Nat → Int32) (hg : g_X5_lays V_t_s x1 x2 x3 x4 = some w1) : Met l yX5_lays wsX5_lays rX5_lays (PcW D cI cZ cB cJ sz [(A_t, .inr (5, [.int V_t_thrown, .ref A_t_s, .ref A_t_aside, .ref A_t_snapshot, .int V_t_isKept, .ref A_t_saved, .int V_t_savedMany, .ref A_t_text, .int V_t_length, .ref A_t_counts, .ref A_t_isCut, .ref A_t_strength, .ref A_t_fails, .ref A_t_why, .ref A_t_driver, .ref A_t_place, .ref A_t_isDone, .int V_t_position, .int V_t_isWrong, .long V_t_digested])), (A_t_s, .inl (cI, 77, .inl V_t_s))] [.ref A_t, .int x1, .int x2, .int x3, .int x4]) (QWv D cI cZ cB cJ sz [(A_t, .inr (5, [.int V_t_thrown, .ref A_t_s, .ref A_t_aside, .ref A_t_snapshot, .int V_t_isKept, .ref A_t_saved, .int V_t_savedMany, .ref A_t_text, .int V_t_length, .ref A_t_counts, .ref A_t_isCut, .ref A_t_strength, .ref A_t_fails, .ref A_t_why, .ref A_t_driver, .ref A_t_place, .ref A_t_isDone, .int V_t_position, .int V_t_isWrong, .long V_t_digested])), (A_t_s, .inl (cI, 77, .inl V_t_s))] [(A_t, .inr (5, [.int V_t_thrown, .ref A_t_s, .ref A_t_aside, .ref A_t_snapshot, .int V_t_isKept, .ref A_t_saved, .int V_t_savedMany, .ref A_t_text, .int V_t_length, .ref A_t_counts, .ref A_t_isCut, .ref A_t_strength, .ref A_t_fails, .ref A_t_why, .ref A_t_driver, .ref A_t_place, .ref A_t_isDone, .int V_t_position, .int V_t_isWrong, .long V_t_digested])), (A_t_s, .inl (cI, 77, .inl w1))]) 0 0 (va_A [(A_t, .inr (5, [.int V_t_thrown, .ref A_t_s, .ref A_t_aside, .ref A_t_snapshot, .int V_t_isKept, .ref A_t_saved, .int V_t_savedMany, .ref A_t_text, .int V_t_length, .ref A_t_counts, .ref A_t_isCut, .ref A_t_strength, .ref A_t_fails, .ref A_t_why, .ref A_t_driver, .ref A_t_place, .ref A_t_isDone, .int V_t_position, .int V_t_isWrong, .long V_t_digested])), (A_t_s, .inl (cI, 77, .inl V_t_s))] sz) := by
  refine bodyWv (cc := cX5_lays) (maxL := 5) (lv := [(0, .ref A_t), (1, .int x1), (2, .int x2), (3, .int x3), (4, .int x4)]) (by decide) rfl (Nat.le_of_ble_eq_true rfl) rfl ?_
  intro p e s m args below meth c Q hx hb hml hown hts A hP hK hD hA hS fin ls hl
  replace hown : s.vm.findClass RX5 = some m.cls := hown
  have S : CallFix p m c cX5_lays 5 s args wsX5_lays RX5 := ⟨hx, hb, hml, hown, hts⟩
  unfold g_X5_lays at hg
  refine lv_aload_n hx hb dX5_lays_0 rfl (lv_at hl 0 rfl) ?_
  refine xget (ci := 5) (C := RX5) (T := TX5) (N := 20) (v := .ref A_t_s) hx hb hts in_X5_lays_X5 hown hK hP 0 rfl rfl 1 (by decide) wd_X5_lays_1 rfl dX5_lays_1 ?_
  refine lv_iload_n hx hb dX5_lays_4 rfl (lv_at hl 1 rfl) ?_
  refine lv_iconst (v := 2) hx hb dX5_lays_5 (by decide) ?_
  obtain ⟨v1, hq, hg⟩ := bind_ex hg
  refine callRSi (As := [.int x1, .int 2]) (rest := [.ref A_t_s]) S hK hP (c_X5_at l D cI cZ cB cJ x1 2 v1 hq) [] rfl (va_cwS 2 hts gX5_lays_X5_at rfl rfl rfl hd_X5_at ⟨Nat.le_of_ble_eq_true rfl, Nat.le_of_ble_eq_true rfl⟩) rfl hl.1 rfl (Nat.le_of_ble_eq_true rfl) dX5_lays_6 ⟨Nat.zero_le _, Nat.zero_le _⟩ ?_
  refine lv_iload_n hx hb dX5_lays_9 rfl (lv_at hl 2 rfl) ?_
  obtain ⟨f2, hin, hv, hg⟩ := wrA_ex hg
  refine xiast (ws2 := [(A_t, .inr (5, [.int V_t_thrown, .ref A_t_s, .ref A_t_aside, .ref A_t_snapshot, .int V_t_isKept, .ref A_t_saved, .int V_t_savedMany, .ref A_t_text, .int V_t_length, .ref A_t_counts, .ref A_t_isCut, .ref A_t_strength, .ref A_t_fails, .ref A_t_why, .ref A_t_driver, .ref A_t_place, .ref A_t_isDone, .int V_t_position, .int V_t_isWrong, .long V_t_digested])), (A_t_s, .inl (cI, 77, .inl f2))]) hx hb hK hP hD hS 1 rfl hin hv rfl dX5_lays_10 (fun H locs hP hD hS => ?_)
  refine lv_aload_n hx hb dX5_lays_11 rfl (lv_at hl 0 rfl) ?_
  refine xget (ci := 5) (C := RX5) (T := TX5) (N := 20) (v := .ref A_t_s) hx hb hts in_X5_lays_X5 hown hK hP 0 rfl rfl 1 (by decide) wd_X5_lays_1 rfl dX5_lays_12 ?_
  refine lv_iload_n hx hb dX5_lays_15 rfl (lv_at hl 1 rfl) ?_
  refine lv_iconst (v := 3) hx hb dX5_lays_16 (by decide) ?_
  obtain ⟨v3, hq, hg⟩ := bind_ex hg
  refine callRSi (As := [.int x1, .int 3]) (rest := [.ref A_t_s]) S hK hP (c_X5_at l D cI cZ cB cJ x1 3 v3 hq) [] rfl (va_cwS 2 hts gX5_lays_X5_at rfl rfl rfl hd_X5_at ⟨Nat.le_of_ble_eq_true rfl, Nat.le_of_ble_eq_true rfl⟩) rfl hl.1 rfl (Nat.le_of_ble_eq_true rfl) dX5_lays_17 ⟨Nat.zero_le _, Nat.zero_le _⟩ ?_
  refine lv_iload_n hx hb dX5_lays_20 rfl (lv_at hl 3 rfl) ?_
  obtain ⟨f4, hin, hv, hg⟩ := wrA_ex hg
  refine xiast (ws2 := [(A_t, .inr (5, [.int V_t_thrown, .ref A_t_s, .ref A_t_aside, .ref A_t_snapshot, .int V_t_isKept, .ref A_t_saved, .int V_t_savedMany, .ref A_t_text, .int V_t_length, .ref A_t_counts, .ref A_t_isCut, .ref A_t_strength, .ref A_t_fails, .ref A_t_why, .ref A_t_driver, .ref A_t_place, .ref A_t_isDone, .int V_t_position, .int V_t_isWrong, .long V_t_digested])), (A_t_s, .inl (cI, 77, .inl f4))]) hx hb hK hP hD hS 1 rfl hin hv rfl dX5_lays_21 (fun H locs hP hD hS => ?_)
  refine lv_aload_n hx hb dX5_lays_22 rfl (lv_at hl 0 rfl) ?_
  refine xget (ci := 5) (C := RX5) (T := TX5) (N := 20) (v := .ref A_t_s) hx hb hts in_X5_lays_X5 hown hK hP 0 rfl rfl 1 (by decide) wd_X5_lays_1 rfl dX5_lays_23 ?_
  refine lv_iload_n hx hb dX5_lays_26 rfl (lv_at hl 1 rfl) ?_
  refine lv_iconst (v := 4) hx hb dX5_lays_27 (by decide) ?_
  obtain ⟨v5, hq, hg⟩ := bind_ex hg
  refine callRSi (As := [.int x1, .int 4]) (rest := [.ref A_t_s]) S hK hP (c_X5_at l D cI cZ cB cJ x1 4 v5 hq) [] rfl (va_cwS 2 hts gX5_lays_X5_at rfl rfl rfl hd_X5_at ⟨Nat.le_of_ble_eq_true rfl, Nat.le_of_ble_eq_true rfl⟩) rfl hl.1 rfl (Nat.le_of_ble_eq_true rfl) dX5_lays_28 ⟨Nat.zero_le _, Nat.zero_le _⟩ ?_
  refine lv_iload hx hb dX5_lays_31 (lv_at hl 4 rfl) ?_
  obtain ⟨f6, hin, hv, hg⟩ := wrA_ex hg
  refine xiast (ws2 := [(A_t, .inr (5, [.int V_t_thrown, .ref A_t_s, .ref A_t_aside, .ref A_t_snapshot, .int V_t_isKept, .ref A_t_saved, .int V_t_savedMany, .ref A_t_text, .int V_t_length, .ref A_t_counts, .ref A_t_isCut, .ref A_t_strength, .ref A_t_fails, .ref A_t_why, .ref A_t_driver, .ref A_t_place, .ref A_t_isDone, .int V_t_position, .int V_t_isWrong, .long V_t_digested])), (A_t_s, .inl (cI, 77, .inl f6))]) hx hb hK hP hD hS 1 rfl hin hv rfl dX5_lays_33 (fun H locs hP hD hS => ?_)
  cases hg
  exact fin _ _ _ _ dX5_lays_34 hP hD hS
theorem hd_X5_opens : yX5_opens.cls = RX5 ∧ yX5_opens.cls ≠ "java/lang/invoke/MethodHandle" ∧ yX5_opens.cls ≠ "java/lang/invoke/VarHandle" ∧ (parseMethodDescriptor yX5_opens.desc).map (fun d => d.parameters.length) = some 0 := by decide +kernel
theorem in_X5_opens_X5 : ∀ w ∈ u_ws RX5 TX5 20, w ∈ wsX5_opens := fun _ h => List.mem_cons_of_mem _ (List.mem_append_right _ h)
theorem wd_X5_opens_1 : Cond.fieldLink RX5 7 "FogOrdersModel" "s" "[I" ∈ wsX5_opens := List.mem_of_getElem? (i := 1) rfl
theorem wd_X5_opens_4 : Cond.fieldLink RX5 44 "FogOrdersModel" "place" "[I" ∈ wsX5_opens := List.mem_of_getElem? (i := 4) rfl
theorem wd_X5_opens_2 : Cond.fieldLink RX5 35 "FogOrdersModel" "fails" "[Z" ∈ wsX5_opens := List.mem_of_getElem? (i := 2) rfl
theorem wd_X5_opens_3 : Cond.fieldLink RX5 41 "FogOrdersModel" "driver" "[I" ∈ wsX5_opens := List.mem_of_getElem? (i := 3) rfl
abbrev rX5_opens : Room := { frames := 7, cells := 0, slots := 0, locals := 154 }
set_option maxHeartbeats 4000000 in
set_option maxRecDepth 100000 in
theorem c_X5_opens (l : Launch) (D : va_G) (cI cZ cB cJ : ClassId) (A_t : Nat) (A_t_s : Nat) (A_t_aside : Nat) (A_t_snapshot : Nat) (A_t_saved : Nat) (A_t_text : Nat) (A_t_counts : Nat) (A_t_isCut : Nat) (A_t_strength : Nat) (A_t_fails : Nat) (A_t_why : Nat) (A_t_driver : Nat) (A_t_place : Nat) (A_t_isDone : Nat) (sz : Nat) (V_t_thrown : Int32) (V_t_isKept : Int32) (V_t_savedMany : Int32) (V_t_length : Int32) (V_t_position : Int32) (V_t_isWrong : Int32) (V_t_digested : Int64) (V_t_s : Nat → Int32) (V_t_isCut : Nat → Int32) (V_t_counts : Nat → Int32) (V_t_strength : Nat → Int32) (V_t_fails : Nat → Int32) (V_t_driver : Nat → Int32) (V_t_why : Nat → Int32) (V_t_isDone : Nat → Int32) (V_t_place : Nat → Int32) (r0 : Int32) (w1 : Nat → Int32) (w2 : Nat → Int32) (w3 : Nat → Int32) (w4 : Nat → Int32) (w5 : Nat → Int32) (w6 : Nat → Int32) (w7 : Nat → Int32) (w8 : Nat → Int32) (w9 : Nat → Int32) (hg : g_X5_opens V_t_s V_t_isCut V_t_counts V_t_strength V_t_fails V_t_driver V_t_why V_t_isDone V_t_place = some (r0, w1, w2, w3, w4, w5, w6, w7, w8, w9)) : Met l yX5_opens wsX5_opens rX5_opens (PcW D cI cZ cB cJ sz [(A_t, .inr (5, [.int V_t_thrown, .ref A_t_s, .ref A_t_aside, .ref A_t_snapshot, .int V_t_isKept, .ref A_t_saved, .int V_t_savedMany, .ref A_t_text, .int V_t_length, .ref A_t_counts, .ref A_t_isCut, .ref A_t_strength, .ref A_t_fails, .ref A_t_why, .ref A_t_driver, .ref A_t_place, .ref A_t_isDone, .int V_t_position, .int V_t_isWrong, .long V_t_digested])), (A_t_s, .inl (cI, 77, .inl V_t_s)), (A_t_isCut, .inl (cZ, 9, .inl V_t_isCut)), (A_t_counts, .inl (cZ, 9, .inl V_t_counts)), (A_t_strength, .inl (cI, 9, .inl V_t_strength)), (A_t_fails, .inl (cZ, 9, .inl V_t_fails)), (A_t_driver, .inl (cI, 9, .inl V_t_driver)), (A_t_why, .inl (cI, 9, .inl V_t_why)), (A_t_isDone, .inl (cZ, 9, .inl V_t_isDone)), (A_t_place, .inl (cI, 9, .inl V_t_place))] [.ref A_t]) (QWi D cI cZ cB cJ sz [(A_t, .inr (5, [.int V_t_thrown, .ref A_t_s, .ref A_t_aside, .ref A_t_snapshot, .int V_t_isKept, .ref A_t_saved, .int V_t_savedMany, .ref A_t_text, .int V_t_length, .ref A_t_counts, .ref A_t_isCut, .ref A_t_strength, .ref A_t_fails, .ref A_t_why, .ref A_t_driver, .ref A_t_place, .ref A_t_isDone, .int V_t_position, .int V_t_isWrong, .long V_t_digested])), (A_t_s, .inl (cI, 77, .inl V_t_s)), (A_t_isCut, .inl (cZ, 9, .inl V_t_isCut)), (A_t_counts, .inl (cZ, 9, .inl V_t_counts)), (A_t_strength, .inl (cI, 9, .inl V_t_strength)), (A_t_fails, .inl (cZ, 9, .inl V_t_fails)), (A_t_driver, .inl (cI, 9, .inl V_t_driver)), (A_t_why, .inl (cI, 9, .inl V_t_why)), (A_t_isDone, .inl (cZ, 9, .inl V_t_isDone)), (A_t_place, .inl (cI, 9, .inl V_t_place))] [(A_t, .inr (5, [.int V_t_thrown, .ref A_t_s, .ref A_t_aside, .ref A_t_snapshot, .int V_t_isKept, .ref A_t_saved, .int V_t_savedMany, .ref A_t_text, .int V_t_length, .ref A_t_counts, .ref A_t_isCut, .ref A_t_strength, .ref A_t_fails, .ref A_t_why, .ref A_t_driver, .ref A_t_place, .ref A_t_isDone, .int V_t_position, .int V_t_isWrong, .long V_t_digested])), (A_t_s, .inl (cI, 77, .inl w1)), (A_t_isCut, .inl (cZ, 9, .inl w2)), (A_t_counts, .inl (cZ, 9, .inl w3)), (A_t_strength, .inl (cI, 9, .inl w4)), (A_t_fails, .inl (cZ, 9, .inl w5)), (A_t_driver, .inl (cI, 9, .inl w6)), (A_t_why, .inl (cI, 9, .inl w7)), (A_t_isDone, .inl (cZ, 9, .inl w8)), (A_t_place, .inl (cI, 9, .inl w9))] r0) 0 0 (va_A [(A_t, .inr (5, [.int V_t_thrown, .ref A_t_s, .ref A_t_aside, .ref A_t_snapshot, .int V_t_isKept, .ref A_t_saved, .int V_t_savedMany, .ref A_t_text, .int V_t_length, .ref A_t_counts, .ref A_t_isCut, .ref A_t_strength, .ref A_t_fails, .ref A_t_why, .ref A_t_driver, .ref A_t_place, .ref A_t_isDone, .int V_t_position, .int V_t_isWrong, .long V_t_digested])), (A_t_s, .inl (cI, 77, .inl V_t_s)), (A_t_isCut, .inl (cZ, 9, .inl V_t_isCut)), (A_t_counts, .inl (cZ, 9, .inl V_t_counts)), (A_t_strength, .inl (cI, 9, .inl V_t_strength)), (A_t_fails, .inl (cZ, 9, .inl V_t_fails)), (A_t_driver, .inl (cI, 9, .inl V_t_driver)), (A_t_why, .inl (cI, 9, .inl V_t_why)), (A_t_isDone, .inl (cZ, 9, .inl V_t_isDone)), (A_t_place, .inl (cI, 9, .inl V_t_place))] sz) := by
  refine bodyWi (cc := cX5_opens) (maxL := 5) (lv := [(0, .ref A_t)]) (by decide) rfl (Nat.le_of_ble_eq_true rfl) rfl ?_
  intro p e s m args below meth c Q hx hb hml hown hts A hP hK hD hA hS fin ls hl
  replace hown : s.vm.findClass RX5 = some m.cls := hown
  have S : CallFix p m c cX5_opens 5 s args wsX5_opens RX5 := ⟨hx, hb, hml, hown, hts⟩
  unfold g_X5_opens at hg
  refine lv_aload_n hx hb dX5_opens_0 rfl (lv_at hl 0 rfl) ?_
  obtain ⟨f1, f2, f3, f4, f5, f6, f7, f8, hq, hg⟩ := b8_ex hg
  refine callWVv (As := []) (rest := []) (wr := []) S hK hP hD hS hA (c_X5_layOpening l D cI cZ cB cJ A_t A_t_s A_t_aside A_t_snapshot A_t_saved A_t_text A_t_counts A_t_isCut A_t_strength A_t_fails A_t_why A_t_driver A_t_place A_t_isDone _ V_t_thrown V_t_isKept V_t_savedMany V_t_length V_t_position V_t_isWrong V_t_digested V_t_s V_t_isCut V_t_counts V_t_strength V_t_fails V_t_driver V_t_why V_t_isDone V_t_place f1 f2 f3 f4 f5 f6 f7 f8 hq) [0, 1, 2, 3, 4, 5, 6, 7, 8, 9] [] rfl rfl (by decide +kernel) (by decide +kernel) (by decide +kernel) (cwV 0 hts gX5_opens_X5_layOpening rfl rfl rfl hd_X5_layOpening ⟨Nat.le_of_ble_eq_true rfl, Nat.le_of_ble_eq_true rfl⟩) rfl rfl rfl hl.1 rfl (Nat.le_of_ble_eq_true rfl) dX5_opens_1 ⟨Nat.zero_le _, Nat.zero_le _⟩ (fun H locs hP hD hS => ?_)
  replace hP : va_P D vwCl [(A_t, .inr (5, [.int V_t_thrown, .ref A_t_s, .ref A_t_aside, .ref A_t_snapshot, .int V_t_isKept, .ref A_t_saved, .int V_t_savedMany, .ref A_t_text, .int V_t_length, .ref A_t_counts, .ref A_t_isCut, .ref A_t_strength, .ref A_t_fails, .ref A_t_why, .ref A_t_driver, .ref A_t_place, .ref A_t_isDone, .int V_t_position, .int V_t_isWrong, .long V_t_digested])), (A_t_s, .inl (cI, 77, .inl V_t_s)), (A_t_isCut, .inl (cZ, 9, .inl f1)), (A_t_counts, .inl (cZ, 9, .inl f2)), (A_t_strength, .inl (cI, 9, .inl f3)), (A_t_fails, .inl (cZ, 9, .inl f4)), (A_t_driver, .inl (cI, 9, .inl f5)), (A_t_why, .inl (cI, 9, .inl f6)), (A_t_isDone, .inl (cZ, 9, .inl f7)), (A_t_place, .inl (cI, 9, .inl f8))] H := hP
  replace hD : va_D A [(A_t, .inr (5, [.int V_t_thrown, .ref A_t_s, .ref A_t_aside, .ref A_t_snapshot, .int V_t_isKept, .ref A_t_saved, .int V_t_savedMany, .ref A_t_text, .int V_t_length, .ref A_t_counts, .ref A_t_isCut, .ref A_t_strength, .ref A_t_fails, .ref A_t_why, .ref A_t_driver, .ref A_t_place, .ref A_t_isDone, .int V_t_position, .int V_t_isWrong, .long V_t_digested])), (A_t_s, .inl (cI, 77, .inl V_t_s)), (A_t_isCut, .inl (cZ, 9, .inl f1)), (A_t_counts, .inl (cZ, 9, .inl f2)), (A_t_strength, .inl (cI, 9, .inl f3)), (A_t_fails, .inl (cZ, 9, .inl f4)), (A_t_driver, .inl (cI, 9, .inl f5)), (A_t_why, .inl (cI, 9, .inl f6)), (A_t_isDone, .inl (cZ, 9, .inl f7)), (A_t_place, .inl (cI, 9, .inl f8))] := hD
  refine lv_iconst (v := 0) hx hb dX5_opens_4 (by decide) ?_
  refine lv_istore_n (lv' := [(1, .int 0), (0, .ref A_t)]) hx hb dX5_opens_5 rfl hl (by decide) rfl (fun ls hl => ?_)
  refine lv_iconst (v := 0) hx hb dX5_opens_6 (by decide) ?_
  refine lv_istore_n (lv' := [(2, .int 0), (1, .int 0), (0, .ref A_t)]) hx hb dX5_opens_7 rfl hl (by decide) rfl (fun ls hl => ?_)
  obtain ⟨v35, f36, hL, hg⟩ := b2_ex hg
  have kx : ∀ (H : Heap) (locs : List Loc), va_P D vwCl [(A_t, .inr (5, [.int V_t_thrown, .ref A_t_s, .ref A_t_aside, .ref A_t_snapshot, .int V_t_isKept, .ref A_t_saved, .int V_t_savedMany, .ref A_t_text, .int V_t_length, .ref A_t_counts, .ref A_t_isCut, .ref A_t_strength, .ref A_t_fails, .ref A_t_why, .ref A_t_driver, .ref A_t_place, .ref A_t_isDone, .int V_t_position, .int V_t_isWrong, .long V_t_digested])), (A_t_s, .inl (cI, 77, .inl f36)), (A_t_isCut, .inl (cZ, 9, .inl f1)), (A_t_counts, .inl (cZ, 9, .inl f2)), (A_t_strength, .inl (cI, 9, .inl f3)), (A_t_fails, .inl (cZ, 9, .inl f4)), (A_t_driver, .inl (cI, 9, .inl f5)), (A_t_why, .inl (cI, 9, .inl f6)), (A_t_isDone, .inl (cZ, 9, .inl f7)), (A_t_place, .inl (cI, 9, .inl f8))] H → va_D A [(A_t, .inr (5, [.int V_t_thrown, .ref A_t_s, .ref A_t_aside, .ref A_t_snapshot, .int V_t_isKept, .ref A_t_saved, .int V_t_savedMany, .ref A_t_text, .int V_t_length, .ref A_t_counts, .ref A_t_isCut, .ref A_t_strength, .ref A_t_fails, .ref A_t_why, .ref A_t_driver, .ref A_t_place, .ref A_t_isDone, .int V_t_position, .int V_t_isWrong, .long V_t_digested])), (A_t_s, .inl (cI, 77, .inl f36)), (A_t_isCut, .inl (cZ, 9, .inl f1)), (A_t_counts, .inl (cZ, 9, .inl f2)), (A_t_strength, .inl (cI, 9, .inl f3)), (A_t_fails, .inl (cZ, 9, .inl f4)), (A_t_driver, .inl (cI, 9, .inl f5)), (A_t_why, .inl (cI, 9, .inl f6)), (A_t_isDone, .inl (cZ, 9, .inl f7)), (A_t_place, .inl (cI, 9, .inl f8))] → va_S A s.heap H locs → ∀ ls : Array Slot, lv_has ls 5 [(1, .int v35), (0, .ref A_t)] → W p l e rX5_opens s m args below meth c H locs 0 0 Q (F0 m 161 ls []) := by
    intro H locs hP hD hS ls hl
    refine lv_aload_n hx hb dX5_opens_161 rfl (lv_at hl 1 rfl) ?_
    refine xget (ci := 5) (C := RX5) (T := TX5) (N := 20) (v := .ref A_t_s) hx hb hts in_X5_opens_X5 hown hK hP 0 rfl rfl 1 (by decide) wd_X5_opens_1 rfl dX5_opens_162 ?_
    refine lv_bipush (v := 9) hx hb dX5_opens_165 (by decide) ?_
    obtain ⟨v37, hin, hv, hg⟩ := rdA_ex hg
    refine xiald hx hb hK hP 1 rfl hin hv dX5_opens_167 ?_
    refine lv_iconst (v := 1) hx hb dX5_opens_168 (by decide) ?_
    refine lv_isub hx hb dX5_opens_169 ?_
    refine lv_istore_n (lv' := [(2, .int (v37 - 1)), (1, .int v35), (0, .ref A_t)]) hx hb dX5_opens_170 rfl hl (by decide) rfl (fun ls hl => ?_)
    obtain ⟨f46, hL, hg⟩ := bind_ex hg
    have kx : ∀ (H : Heap) (locs : List Loc), va_P D vwCl [(A_t, .inr (5, [.int V_t_thrown, .ref A_t_s, .ref A_t_aside, .ref A_t_snapshot, .int V_t_isKept, .ref A_t_saved, .int V_t_savedMany, .ref A_t_text, .int V_t_length, .ref A_t_counts, .ref A_t_isCut, .ref A_t_strength, .ref A_t_fails, .ref A_t_why, .ref A_t_driver, .ref A_t_place, .ref A_t_isDone, .int V_t_position, .int V_t_isWrong, .long V_t_digested])), (A_t_s, .inl (cI, 77, .inl f46)), (A_t_isCut, .inl (cZ, 9, .inl f1)), (A_t_counts, .inl (cZ, 9, .inl f2)), (A_t_strength, .inl (cI, 9, .inl f3)), (A_t_fails, .inl (cZ, 9, .inl f4)), (A_t_driver, .inl (cI, 9, .inl f5)), (A_t_why, .inl (cI, 9, .inl f6)), (A_t_isDone, .inl (cZ, 9, .inl f7)), (A_t_place, .inl (cI, 9, .inl f8))] H → va_D A [(A_t, .inr (5, [.int V_t_thrown, .ref A_t_s, .ref A_t_aside, .ref A_t_snapshot, .int V_t_isKept, .ref A_t_saved, .int V_t_savedMany, .ref A_t_text, .int V_t_length, .ref A_t_counts, .ref A_t_isCut, .ref A_t_strength, .ref A_t_fails, .ref A_t_why, .ref A_t_driver, .ref A_t_place, .ref A_t_isDone, .int V_t_position, .int V_t_isWrong, .long V_t_digested])), (A_t_s, .inl (cI, 77, .inl f46)), (A_t_isCut, .inl (cZ, 9, .inl f1)), (A_t_counts, .inl (cZ, 9, .inl f2)), (A_t_strength, .inl (cI, 9, .inl f3)), (A_t_fails, .inl (cZ, 9, .inl f4)), (A_t_driver, .inl (cI, 9, .inl f5)), (A_t_why, .inl (cI, 9, .inl f6)), (A_t_isDone, .inl (cZ, 9, .inl f7)), (A_t_place, .inl (cI, 9, .inl f8))] → va_S A s.heap H locs → ∀ ls : Array Slot, lv_has ls 5 [(1, .int v35), (0, .ref A_t)] → W p l e rX5_opens s m args below meth c H locs 0 0 Q (F0 m 220 ls []) := by
      intro H locs hP hD hS ls hl
      refine lv_aload_n hx hb dX5_opens_220 rfl (lv_at hl 1 rfl) ?_
      refine xget (ci := 5) (C := RX5) (T := TX5) (N := 20) (v := .ref A_t_s) hx hb hts in_X5_opens_X5 hown hK hP 0 rfl rfl 1 (by decide) wd_X5_opens_1 rfl dX5_opens_221 ?_
      refine lv_iconst (v := 2) hx hb dX5_opens_224 (by decide) ?_
      refine lv_dup2_11 hx hb dX5_opens_225 rfl rfl ?_
      obtain ⟨v47, hin, hv, hg⟩ := rdA_ex hg
      refine xiald hx hb hK hP 1 rfl hin hv dX5_opens_226 ?_
      refine lv_iconst (v := 1) hx hb dX5_opens_227 (by decide) ?_
      refine lv_iadd hx hb dX5_opens_228 ?_
      obtain ⟨f48, hin, hv, hg⟩ := wrA_ex hg
      refine xiast (ws2 := [(A_t, .inr (5, [.int V_t_thrown, .ref A_t_s, .ref A_t_aside, .ref A_t_snapshot, .int V_t_isKept, .ref A_t_saved, .int V_t_savedMany, .ref A_t_text, .int V_t_length, .ref A_t_counts, .ref A_t_isCut, .ref A_t_strength, .ref A_t_fails, .ref A_t_why, .ref A_t_driver, .ref A_t_place, .ref A_t_isDone, .int V_t_position, .int V_t_isWrong, .long V_t_digested])), (A_t_s, .inl (cI, 77, .inl f48)), (A_t_isCut, .inl (cZ, 9, .inl f1)), (A_t_counts, .inl (cZ, 9, .inl f2)), (A_t_strength, .inl (cI, 9, .inl f3)), (A_t_fails, .inl (cZ, 9, .inl f4)), (A_t_driver, .inl (cI, 9, .inl f5)), (A_t_why, .inl (cI, 9, .inl f6)), (A_t_isDone, .inl (cZ, 9, .inl f7)), (A_t_place, .inl (cI, 9, .inl f8))]) hx hb hK hP hD hS 1 rfl hin hv rfl dX5_opens_229 (fun H locs hP hD hS => ?_)
      refine lv_iload_n hx hb dX5_opens_230 rfl (lv_at hl 0 rfl) ?_
      cases hg
      exact fin _ _ _ _ dX5_opens_231 hP hD hS
    have L : ∀ (nf : Nat) (v38 : Int32) (f39 : Nat → Int32), ∀ (H : Heap) (locs : List Loc), va_P D vwCl [(A_t, .inr (5, [.int V_t_thrown, .ref A_t_s, .ref A_t_aside, .ref A_t_snapshot, .int V_t_isKept, .ref A_t_saved, .int V_t_savedMany, .ref A_t_text, .int V_t_length, .ref A_t_counts, .ref A_t_isCut, .ref A_t_strength, .ref A_t_fails, .ref A_t_why, .ref A_t_driver, .ref A_t_place, .ref A_t_isDone, .int V_t_position, .int V_t_isWrong, .long V_t_digested])), (A_t_s, .inl (cI, 77, .inl f39)), (A_t_isCut, .inl (cZ, 9, .inl f1)), (A_t_counts, .inl (cZ, 9, .inl f2)), (A_t_strength, .inl (cI, 9, .inl f3)), (A_t_fails, .inl (cZ, 9, .inl f4)), (A_t_driver, .inl (cI, 9, .inl f5)), (A_t_why, .inl (cI, 9, .inl f6)), (A_t_isDone, .inl (cZ, 9, .inl f7)), (A_t_place, .inl (cI, 9, .inl f8))] H → va_D A [(A_t, .inr (5, [.int V_t_thrown, .ref A_t_s, .ref A_t_aside, .ref A_t_snapshot, .int V_t_isKept, .ref A_t_saved, .int V_t_savedMany, .ref A_t_text, .int V_t_length, .ref A_t_counts, .ref A_t_isCut, .ref A_t_strength, .ref A_t_fails, .ref A_t_why, .ref A_t_driver, .ref A_t_place, .ref A_t_isDone, .int V_t_position, .int V_t_isWrong, .long V_t_digested])), (A_t_s, .inl (cI, 77, .inl f39)), (A_t_isCut, .inl (cZ, 9, .inl f1)), (A_t_counts, .inl (cZ, 9, .inl f2)), (A_t_strength, .inl (cI, 9, .inl f3)), (A_t_fails, .inl (cZ, 9, .inl f4)), (A_t_driver, .inl (cI, 9, .inl f5)), (A_t_why, .inl (cI, 9, .inl f6)), (A_t_isDone, .inl (cZ, 9, .inl f7)), (A_t_place, .inl (cI, 9, .inl f8))] → va_S A s.heap H locs → ∀ ls : Array Slot, lv_has ls 5 [(2, .int v38), (1, .int v35), (0, .ref A_t)] → g_X5_opens_L2 f8 nf v38 f39 = some f46 → W p l e rX5_opens s m args below meth c H locs 0 0 Q (F0 m 171 ls []) := by
      intro nf
      induction nf with
      | zero =>
        intro v38 f39 H locs hP hD hS ls hl hg
        exact no_some hg
      | succ nf ih =>
        intro v38 f39 H locs hP hD hS ls hl hg
        rw [g_X5_opens_L2] at hg
        refine lv_iload_n hx hb dX5_opens_171 rfl (lv_at hl 0 rfl) ?_
        refine lv_if_lt (tgt := 220) hx hb dX5_opens_172 (by decide) (fun hc => ?_) (fun hc => ?_)
        · replace hg := if_yes hg hc
          cases hg
          exact kx _ _ hP hD hS _ (lv_sub hl [1, 2] rfl)
        · replace hg := if_no hg hc
          refine lv_aload_n hx hb dX5_opens_175 rfl (lv_at hl 2 rfl) ?_
          refine xget (ci := 5) (C := RX5) (T := TX5) (N := 20) (v := .ref A_t_s) hx hb hts in_X5_opens_X5 hown hK hP 0 rfl rfl 1 (by decide) wd_X5_opens_1 rfl dX5_opens_176 ?_
          refine lv_iload_n hx hb dX5_opens_179 rfl (lv_at hl 0 rfl) ?_
          refine lv_iconst (v := 1) hx hb dX5_opens_180 (by decide) ?_
          obtain ⟨v40, hq, hg⟩ := bind_ex hg
          refine callRSi (As := [.int v38, .int 1]) (rest := [.ref A_t_s]) S hK hP (c_X5_at l D cI cZ cB cJ v38 1 v40 hq) [] rfl (va_cwS 2 hts gX5_opens_X5_at rfl rfl rfl hd_X5_at ⟨Nat.le_of_ble_eq_true rfl, Nat.le_of_ble_eq_true rfl⟩) rfl hl.1 rfl (Nat.le_of_ble_eq_true rfl) dX5_opens_181 ⟨Nat.zero_le _, Nat.zero_le _⟩ ?_
          refine lv_aload_n hx hb dX5_opens_184 rfl (lv_at hl 2 rfl) ?_
          refine xget (ci := 5) (C := RX5) (T := TX5) (N := 20) (v := .ref A_t_place) hx hb hts in_X5_opens_X5 hown hK hP 0 rfl rfl 15 (by decide) wd_X5_opens_4 rfl dX5_opens_185 ?_
          refine lv_iload_n hx hb dX5_opens_188 rfl (lv_at hl 0 rfl) ?_
          obtain ⟨v41, hin, hv, hg⟩ := rdA_ex hg
          refine xiald hx hb hK hP 9 rfl hin hv dX5_opens_189 ?_
          obtain ⟨f42, hin, hv, hg⟩ := wrA_ex hg
          refine xiast (ws2 := [(A_t, .inr (5, [.int V_t_thrown, .ref A_t_s, .ref A_t_aside, .ref A_t_snapshot, .int V_t_isKept, .ref A_t_saved, .int V_t_savedMany, .ref A_t_text, .int V_t_length, .ref A_t_counts, .ref A_t_isCut, .ref A_t_strength, .ref A_t_fails, .ref A_t_why, .ref A_t_driver, .ref A_t_place, .ref A_t_isDone, .int V_t_position, .int V_t_isWrong, .long V_t_digested])), (A_t_s, .inl (cI, 77, .inl f42)), (A_t_isCut, .inl (cZ, 9, .inl f1)), (A_t_counts, .inl (cZ, 9, .inl f2)), (A_t_strength, .inl (cI, 9, .inl f3)), (A_t_fails, .inl (cZ, 9, .inl f4)), (A_t_driver, .inl (cI, 9, .inl f5)), (A_t_why, .inl (cI, 9, .inl f6)), (A_t_isDone, .inl (cZ, 9, .inl f7)), (A_t_place, .inl (cI, 9, .inl f8))]) hx hb hK hP hD hS 1 rfl hin hv rfl dX5_opens_190 (fun H locs hP hD hS => ?_)
          refine lv_aload_n hx hb dX5_opens_191 rfl (lv_at hl 2 rfl) ?_
          refine lv_iload_n hx hb dX5_opens_192 rfl (lv_at hl 0 rfl) ?_
          refine lv_iconst (v := 0) hx hb dX5_opens_193 (by decide) ?_
          refine lv_iconst (v := (-1)) hx hb dX5_opens_194 (by decide) ?_
          refine lv_iconst (v := (-1)) hx hb dX5_opens_195 (by decide) ?_
          obtain ⟨f43, hq, hg⟩ := bind_ex hg
          refine callWVv (As := [.int v38, .int 0, .int (-1), .int (-1)]) (rest := []) (wr := [(A_t_isCut, .inl (cZ, 9, .inl f1)), (A_t_counts, .inl (cZ, 9, .inl f2)), (A_t_strength, .inl (cI, 9, .inl f3)), (A_t_fails, .inl (cZ, 9, .inl f4)), (A_t_driver, .inl (cI, 9, .inl f5)), (A_t_why, .inl (cI, 9, .inl f6)), (A_t_isDone, .inl (cZ, 9, .inl f7)), (A_t_place, .inl (cI, 9, .inl f8))]) S hK hP hD hS hA (c_X5_lays l D cI cZ cB cJ A_t A_t_s A_t_aside A_t_snapshot A_t_saved A_t_text A_t_counts A_t_isCut A_t_strength A_t_fails A_t_why A_t_driver A_t_place A_t_isDone _ V_t_thrown V_t_isKept V_t_savedMany V_t_length V_t_position V_t_isWrong V_t_digested f42 v38 0 (-1) (-1) f43 hq) [0, 1] [2, 3, 4, 5, 6, 7, 8, 9] rfl rfl (by decide +kernel) (by decide +kernel) (by decide +kernel) (cwV 4 hts gX5_opens_X5_lays rfl rfl rfl hd_X5_lays ⟨Nat.le_of_ble_eq_true rfl, Nat.le_of_ble_eq_true rfl⟩) rfl rfl rfl hl.1 rfl (Nat.le_of_ble_eq_true rfl) dX5_opens_196 ⟨Nat.zero_le _, Nat.zero_le _⟩ (fun H locs hP hD hS => ?_)
          replace hP : va_P D vwCl [(A_t_isCut, .inl (cZ, 9, .inl f1)), (A_t_counts, .inl (cZ, 9, .inl f2)), (A_t_strength, .inl (cI, 9, .inl f3)), (A_t_fails, .inl (cZ, 9, .inl f4)), (A_t_driver, .inl (cI, 9, .inl f5)), (A_t_why, .inl (cI, 9, .inl f6)), (A_t_isDone, .inl (cZ, 9, .inl f7)), (A_t_place, .inl (cI, 9, .inl f8)), (A_t, .inr (5, [.int V_t_thrown, .ref A_t_s, .ref A_t_aside, .ref A_t_snapshot, .int V_t_isKept, .ref A_t_saved, .int V_t_savedMany, .ref A_t_text, .int V_t_length, .ref A_t_counts, .ref A_t_isCut, .ref A_t_strength, .ref A_t_fails, .ref A_t_why, .ref A_t_driver, .ref A_t_place, .ref A_t_isDone, .int V_t_position, .int V_t_isWrong, .long V_t_digested])), (A_t_s, .inl (cI, 77, .inl f43))] H := hP
          replace hD : va_D A [(A_t_isCut, .inl (cZ, 9, .inl f1)), (A_t_counts, .inl (cZ, 9, .inl f2)), (A_t_strength, .inl (cI, 9, .inl f3)), (A_t_fails, .inl (cZ, 9, .inl f4)), (A_t_driver, .inl (cI, 9, .inl f5)), (A_t_why, .inl (cI, 9, .inl f6)), (A_t_isDone, .inl (cZ, 9, .inl f7)), (A_t_place, .inl (cI, 9, .inl f8)), (A_t, .inr (5, [.int V_t_thrown, .ref A_t_s, .ref A_t_aside, .ref A_t_snapshot, .int V_t_isKept, .ref A_t_saved, .int V_t_savedMany, .ref A_t_text, .int V_t_length, .ref A_t_counts, .ref A_t_isCut, .ref A_t_strength, .ref A_t_fails, .ref A_t_why, .ref A_t_driver, .ref A_t_place, .ref A_t_isDone, .int V_t_position, .int V_t_isWrong, .long V_t_digested])), (A_t_s, .inl (cI, 77, .inl f43))] := hD
          refine lv_aload_n hx hb dX5_opens_199 rfl (lv_at hl 2 rfl) ?_
          refine xget (ci := 5) (C := RX5) (T := TX5) (N := 20) (v := .ref A_t_place) hx hb hts in_X5_opens_X5 hown hK hP 8 rfl rfl 15 (by decide) wd_X5_opens_4 rfl dX5_opens_200 ?_
          refine lv_iload_n hx hb dX5_opens_203 rfl (lv_at hl 0 rfl) ?_
          obtain ⟨v44, hin, hv, hg⟩ := rdA_ex hg
          refine xiald hx hb hK hP 7 rfl hin hv dX5_opens_204 ?_
          refine lv_iconst (v := (-1)) hx hb dX5_opens_205 (by decide) ?_
          refine lv_icmp_ne (tgt := 214) hx hb dX5_opens_206 (by decide) (fun hc => ?_) (fun hc => ?_)
          · replace hg := if_no hg hc
            refine lv_iinc (v := (v38 + (-1))) (lv' := [(2, .int (v38 + (-1))), (1, .int v35), (0, .ref A_t)]) hx hb dX5_opens_214 hl (k := 0) rfl rfl (by decide) rfl (fun ls hl => ?_)
            refine lv_goto (tgt := 171) hx hb dX5_opens_217 (by decide) ?_
            exact ih _ _ _ _ (hP.sub [8, 9, 0, 1, 2, 3, 4, 5, 6, 7] rfl) (hD.sub [8, 9, 0, 1, 2, 3, 4, 5, 6, 7] (by decide) rfl) hS _ (lv_sub hl [0, 1, 2] rfl) hg
          · replace hg := if_yes hg hc
            refine lv_aload_n hx hb dX5_opens_209 rfl (lv_at hl 2 rfl) ?_
            refine lv_iload_n hx hb dX5_opens_210 rfl (lv_at hl 0 rfl) ?_
            obtain ⟨f45, hq, hg⟩ := bind_ex hg
            refine callWVv (As := [.int v38]) (rest := []) (wr := [(A_t_isCut, .inl (cZ, 9, .inl f1)), (A_t_counts, .inl (cZ, 9, .inl f2)), (A_t_strength, .inl (cI, 9, .inl f3)), (A_t_fails, .inl (cZ, 9, .inl f4)), (A_t_driver, .inl (cI, 9, .inl f5)), (A_t_why, .inl (cI, 9, .inl f6)), (A_t_isDone, .inl (cZ, 9, .inl f7)), (A_t_place, .inl (cI, 9, .inl f8))]) S hK hP hD hS hA (c_X5_goes l D cI cZ cB cJ A_t A_t_s A_t_aside A_t_snapshot A_t_saved A_t_text A_t_counts A_t_isCut A_t_strength A_t_fails A_t_why A_t_driver A_t_place A_t_isDone _ V_t_thrown V_t_isKept V_t_savedMany V_t_length V_t_position V_t_isWrong V_t_digested f43 v38 f45 hq) [8, 9] [0, 1, 2, 3, 4, 5, 6, 7] rfl rfl (by decide +kernel) (by decide +kernel) (by decide +kernel) (cwV 1 hts gX5_opens_X5_goes rfl rfl rfl hd_X5_goes ⟨Nat.le_of_ble_eq_true rfl, Nat.le_of_ble_eq_true rfl⟩) rfl rfl rfl hl.1 rfl (Nat.le_of_ble_eq_true rfl) dX5_opens_211 ⟨Nat.zero_le _, Nat.zero_le _⟩ (fun H locs hP hD hS => ?_)
            replace hP : va_P D vwCl [(A_t_isCut, .inl (cZ, 9, .inl f1)), (A_t_counts, .inl (cZ, 9, .inl f2)), (A_t_strength, .inl (cI, 9, .inl f3)), (A_t_fails, .inl (cZ, 9, .inl f4)), (A_t_driver, .inl (cI, 9, .inl f5)), (A_t_why, .inl (cI, 9, .inl f6)), (A_t_isDone, .inl (cZ, 9, .inl f7)), (A_t_place, .inl (cI, 9, .inl f8)), (A_t, .inr (5, [.int V_t_thrown, .ref A_t_s, .ref A_t_aside, .ref A_t_snapshot, .int V_t_isKept, .ref A_t_saved, .int V_t_savedMany, .ref A_t_text, .int V_t_length, .ref A_t_counts, .ref A_t_isCut, .ref A_t_strength, .ref A_t_fails, .ref A_t_why, .ref A_t_driver, .ref A_t_place, .ref A_t_isDone, .int V_t_position, .int V_t_isWrong, .long V_t_digested])), (A_t_s, .inl (cI, 77, .inl f45))] H := hP
            replace hD : va_D A [(A_t_isCut, .inl (cZ, 9, .inl f1)), (A_t_counts, .inl (cZ, 9, .inl f2)), (A_t_strength, .inl (cI, 9, .inl f3)), (A_t_fails, .inl (cZ, 9, .inl f4)), (A_t_driver, .inl (cI, 9, .inl f5)), (A_t_why, .inl (cI, 9, .inl f6)), (A_t_isDone, .inl (cZ, 9, .inl f7)), (A_t_place, .inl (cI, 9, .inl f8)), (A_t, .inr (5, [.int V_t_thrown, .ref A_t_s, .ref A_t_aside, .ref A_t_snapshot, .int V_t_isKept, .ref A_t_saved, .int V_t_savedMany, .ref A_t_text, .int V_t_length, .ref A_t_counts, .ref A_t_isCut, .ref A_t_strength, .ref A_t_fails, .ref A_t_why, .ref A_t_driver, .ref A_t_place, .ref A_t_isDone, .int V_t_position, .int V_t_isWrong, .long V_t_digested])), (A_t_s, .inl (cI, 77, .inl f45))] := hD
            refine lv_iinc (v := (v38 + (-1))) (lv' := [(2, .int (v38 + (-1))), (1, .int v35), (0, .ref A_t)]) hx hb dX5_opens_214 hl (k := 0) rfl rfl (by decide) rfl (fun ls hl => ?_)
            refine lv_goto (tgt := 171) hx hb dX5_opens_217 (by decide) ?_
            exact ih _ _ _ _ (hP.sub [8, 9, 0, 1, 2, 3, 4, 5, 6, 7] rfl) (hD.sub [8, 9, 0, 1, 2, 3, 4, 5, 6, 7] (by decide) rfl) hS _ (lv_sub hl [0, 1, 2] rfl) hg
    exact L FU _ _ _ _ hP hD hS _ (lv_sub hl [0, 1, 2] rfl) hL
  have L : ∀ (nf : Nat) (v9 : Int32) (v10 : Int32) (f11 : Nat → Int32), ∀ (H : Heap) (locs : List Loc), va_P D vwCl [(A_t, .inr (5, [.int V_t_thrown, .ref A_t_s, .ref A_t_aside, .ref A_t_snapshot, .int V_t_isKept, .ref A_t_saved, .int V_t_savedMany, .ref A_t_text, .int V_t_length, .ref A_t_counts, .ref A_t_isCut, .ref A_t_strength, .ref A_t_fails, .ref A_t_why, .ref A_t_driver, .ref A_t_place, .ref A_t_isDone, .int V_t_position, .int V_t_isWrong, .long V_t_digested])), (A_t_s, .inl (cI, 77, .inl f11)), (A_t_isCut, .inl (cZ, 9, .inl f1)), (A_t_counts, .inl (cZ, 9, .inl f2)), (A_t_strength, .inl (cI, 9, .inl f3)), (A_t_fails, .inl (cZ, 9, .inl f4)), (A_t_driver, .inl (cI, 9, .inl f5)), (A_t_why, .inl (cI, 9, .inl f6)), (A_t_isDone, .inl (cZ, 9, .inl f7)), (A_t_place, .inl (cI, 9, .inl f8))] H → va_D A [(A_t, .inr (5, [.int V_t_thrown, .ref A_t_s, .ref A_t_aside, .ref A_t_snapshot, .int V_t_isKept, .ref A_t_saved, .int V_t_savedMany, .ref A_t_text, .int V_t_length, .ref A_t_counts, .ref A_t_isCut, .ref A_t_strength, .ref A_t_fails, .ref A_t_why, .ref A_t_driver, .ref A_t_place, .ref A_t_isDone, .int V_t_position, .int V_t_isWrong, .long V_t_digested])), (A_t_s, .inl (cI, 77, .inl f11)), (A_t_isCut, .inl (cZ, 9, .inl f1)), (A_t_counts, .inl (cZ, 9, .inl f2)), (A_t_strength, .inl (cI, 9, .inl f3)), (A_t_fails, .inl (cZ, 9, .inl f4)), (A_t_driver, .inl (cI, 9, .inl f5)), (A_t_why, .inl (cI, 9, .inl f6)), (A_t_isDone, .inl (cZ, 9, .inl f7)), (A_t_place, .inl (cI, 9, .inl f8))] → va_S A s.heap H locs → ∀ ls : Array Slot, lv_has ls 5 [(2, .int v10), (1, .int v9), (0, .ref A_t)] → g_X5_opens_L1 f4 f5 f8 nf v9 v10 f11 = some (v35, f36) → W p l e rX5_opens s m args below meth c H locs 0 0 Q (F0 m 8 ls []) := by
    intro nf
    induction nf with
    | zero =>
      intro v9 v10 f11 H locs hP hD hS ls hl hg
      exact no_some hg
    | succ nf ih =>
      intro v9 v10 f11 H locs hP hD hS ls hl hg
      rw [g_X5_opens_L1] at hg
      refine lv_iload_n hx hb dX5_opens_8 rfl (lv_at hl 0 rfl) ?_
      refine lv_aload_n hx hb dX5_opens_9 rfl (lv_at hl 2 rfl) ?_
      refine xget (ci := 5) (C := RX5) (T := TX5) (N := 20) (v := .ref A_t_s) hx hb hts in_X5_opens_X5 hown hK hP 0 rfl rfl 1 (by decide) wd_X5_opens_1 rfl dX5_opens_10 ?_
      refine lv_bipush (v := 9) hx hb dX5_opens_13 (by decide) ?_
      obtain ⟨v12, hin, hv, hg⟩ := rdA_ex hg
      refine xiald hx hb hK hP 1 rfl hin hv dX5_opens_15 ?_
      refine lv_icmp_ge (tgt := 161) hx hb dX5_opens_16 (by decide) (fun hc => ?_) (fun hc => ?_)
      · replace hg := if_yes hg hc
        cases hg
        exact kx _ _ hP hD hS _ (lv_sub hl [1, 2] rfl)
      · replace hg := if_no hg hc
        refine lv_aload_n hx hb dX5_opens_19 rfl (lv_at hl 2 rfl) ?_
        refine xget (ci := 5) (C := RX5) (T := TX5) (N := 20) (v := .ref A_t_fails) hx hb hts in_X5_opens_X5 hown hK hP 0 rfl rfl 12 (by decide) wd_X5_opens_2 rfl dX5_opens_20 ?_
        refine lv_iload_n hx hb dX5_opens_23 rfl (lv_at hl 0 rfl) ?_
        obtain ⟨v13, hin, hv, hg⟩ := rdA_ex hg
        refine xzald hx hb hK hP 5 rfl hin hv dX5_opens_24 ?_
        have hJ1 : ∀ (v14 : Int32), bo v14 → ∀ (H : Heap) (locs : List Loc), va_P D vwCl [(A_t, .inr (5, [.int V_t_thrown, .ref A_t_s, .ref A_t_aside, .ref A_t_snapshot, .int V_t_isKept, .ref A_t_saved, .int V_t_savedMany, .ref A_t_text, .int V_t_length, .ref A_t_counts, .ref A_t_isCut, .ref A_t_strength, .ref A_t_fails, .ref A_t_why, .ref A_t_driver, .ref A_t_place, .ref A_t_isDone, .int V_t_position, .int V_t_isWrong, .long V_t_digested])), (A_t_s, .inl (cI, 77, .inl f11)), (A_t_isCut, .inl (cZ, 9, .inl f1)), (A_t_counts, .inl (cZ, 9, .inl f2)), (A_t_strength, .inl (cI, 9, .inl f3)), (A_t_fails, .inl (cZ, 9, .inl f4)), (A_t_driver, .inl (cI, 9, .inl f5)), (A_t_why, .inl (cI, 9, .inl f6)), (A_t_isDone, .inl (cZ, 9, .inl f7)), (A_t_place, .inl (cI, 9, .inl f8))] H → va_D A [(A_t, .inr (5, [.int V_t_thrown, .ref A_t_s, .ref A_t_aside, .ref A_t_snapshot, .int V_t_isKept, .ref A_t_saved, .int V_t_savedMany, .ref A_t_text, .int V_t_length, .ref A_t_counts, .ref A_t_isCut, .ref A_t_strength, .ref A_t_fails, .ref A_t_why, .ref A_t_driver, .ref A_t_place, .ref A_t_isDone, .int V_t_position, .int V_t_isWrong, .long V_t_digested])), (A_t_s, .inl (cI, 77, .inl f11)), (A_t_isCut, .inl (cZ, 9, .inl f1)), (A_t_counts, .inl (cZ, 9, .inl f2)), (A_t_strength, .inl (cI, 9, .inl f3)), (A_t_fails, .inl (cZ, 9, .inl f4)), (A_t_driver, .inl (cI, 9, .inl f5)), (A_t_why, .inl (cI, 9, .inl f6)), (A_t_isDone, .inl (cZ, 9, .inl f7)), (A_t_place, .inl (cI, 9, .inl f8))] → va_S A s.heap H locs → ∀ ls : Array Slot, lv_has ls 5 [(2, .int v10), (1, .int v9), (0, .ref A_t)] → g_X5_opens_J1 f11 v10 f5 f8 v9 (g_X5_opens_L1 f4 f5 f8 nf) v14 = some (v35, f36) → W p l e rX5_opens s m args below meth c H locs 0 0 Q (F0 m 33 ls [.int v14]) := by
          intro v14 hz_v14 H locs hP hD hS ls hl hg
          unfold g_X5_opens_J1 at hg
          refine lv_istore_n (lv' := [(3, .int v14), (2, .int v10), (1, .int v9), (0, .ref A_t)]) hx hb dX5_opens_33 rfl hl (by decide) rfl (fun ls hl => ?_)
          refine lv_aload_n hx hb dX5_opens_34 rfl (lv_at hl 3 rfl) ?_
          refine lv_iload_n hx hb dX5_opens_35 rfl (lv_at hl 1 rfl) ?_
          obtain ⟨v15, hq, hg⟩ := bind_ex hg
          refine callRVz (As := [.int v10]) (rest := []) S hK hP (c_X5_moves l D cI cZ cB cJ A_t A_t_s A_t_aside A_t_snapshot A_t_saved A_t_text A_t_counts A_t_isCut A_t_strength A_t_fails A_t_why A_t_driver A_t_place A_t_isDone V_t_thrown V_t_isKept V_t_savedMany V_t_length V_t_position V_t_isWrong V_t_digested f11 v10 v15 hq) [0, 1] rfl (cwV 1 hts gX5_opens_X5_moves rfl rfl rfl hd_X5_moves ⟨Nat.le_of_ble_eq_true rfl, Nat.le_of_ble_eq_true rfl⟩) rfl rfl rfl hl.1 rfl (Nat.le_of_ble_eq_true rfl) dX5_opens_36 ⟨Nat.zero_le _, Nat.zero_le _⟩ (fun hz_v15 => ?_)
          have hJ2 : ∀ (v16 : Int32), ∀ (H : Heap) (locs : List Loc), va_P D vwCl [(A_t, .inr (5, [.int V_t_thrown, .ref A_t_s, .ref A_t_aside, .ref A_t_snapshot, .int V_t_isKept, .ref A_t_saved, .int V_t_savedMany, .ref A_t_text, .int V_t_length, .ref A_t_counts, .ref A_t_isCut, .ref A_t_strength, .ref A_t_fails, .ref A_t_why, .ref A_t_driver, .ref A_t_place, .ref A_t_isDone, .int V_t_position, .int V_t_isWrong, .long V_t_digested])), (A_t_s, .inl (cI, 77, .inl f11)), (A_t_isCut, .inl (cZ, 9, .inl f1)), (A_t_counts, .inl (cZ, 9, .inl f2)), (A_t_strength, .inl (cI, 9, .inl f3)), (A_t_fails, .inl (cZ, 9, .inl f4)), (A_t_driver, .inl (cI, 9, .inl f5)), (A_t_why, .inl (cI, 9, .inl f6)), (A_t_isDone, .inl (cZ, 9, .inl f7)), (A_t_place, .inl (cI, 9, .inl f8))] H → va_D A [(A_t, .inr (5, [.int V_t_thrown, .ref A_t_s, .ref A_t_aside, .ref A_t_snapshot, .int V_t_isKept, .ref A_t_saved, .int V_t_savedMany, .ref A_t_text, .int V_t_length, .ref A_t_counts, .ref A_t_isCut, .ref A_t_strength, .ref A_t_fails, .ref A_t_why, .ref A_t_driver, .ref A_t_place, .ref A_t_isDone, .int V_t_position, .int V_t_isWrong, .long V_t_digested])), (A_t_s, .inl (cI, 77, .inl f11)), (A_t_isCut, .inl (cZ, 9, .inl f1)), (A_t_counts, .inl (cZ, 9, .inl f2)), (A_t_strength, .inl (cI, 9, .inl f3)), (A_t_fails, .inl (cZ, 9, .inl f4)), (A_t_driver, .inl (cI, 9, .inl f5)), (A_t_why, .inl (cI, 9, .inl f6)), (A_t_isDone, .inl (cZ, 9, .inl f7)), (A_t_place, .inl (cI, 9, .inl f8))] → va_S A s.heap H locs → ∀ ls : Array Slot, lv_has ls 5 [(3, .int v14), (2, .int v10), (1, .int v9), (0, .ref A_t)] → g_X5_opens_J2 v10 f11 v14 f5 f8 v9 (g_X5_opens_L1 f4 f5 f8 nf) v16 = some (v35, f36) → W p l e rX5_opens s m args below meth c H locs 0 0 Q (F0 m 49 ls [.int v16]) := by
            intro v16 H locs hP hD hS ls hl hg
            unfold g_X5_opens_J2 at hg
            refine lv_istore (lv' := [(4, .int v16), (3, .int v14), (2, .int v10), (1, .int v9), (0, .ref A_t)]) hx hb dX5_opens_49 hl (by decide) rfl (fun ls hl => ?_)
            refine lv_aload_n hx hb dX5_opens_51 rfl (lv_at hl 4 rfl) ?_
            refine xget (ci := 5) (C := RX5) (T := TX5) (N := 20) (v := .ref A_t_s) hx hb hts in_X5_opens_X5 hown hK hP 0 rfl rfl 1 (by decide) wd_X5_opens_1 rfl dX5_opens_52 ?_
            refine lv_iload_n hx hb dX5_opens_55 rfl (lv_at hl 2 rfl) ?_
            refine lv_iconst (v := 5) hx hb dX5_opens_56 (by decide) ?_
            obtain ⟨v17, hq, hg⟩ := bind_ex hg
            refine callRSi (As := [.int v10, .int 5]) (rest := [.ref A_t_s]) S hK hP (c_X5_at l D cI cZ cB cJ v10 5 v17 hq) [] rfl (va_cwS 2 hts gX5_opens_X5_at rfl rfl rfl hd_X5_at ⟨Nat.le_of_ble_eq_true rfl, Nat.le_of_ble_eq_true rfl⟩) rfl hl.1 rfl (Nat.le_of_ble_eq_true rfl) dX5_opens_57 ⟨Nat.zero_le _, Nat.zero_le _⟩ ?_
            refine lv_dup2_11 hx hb dX5_opens_60 rfl rfl ?_
            obtain ⟨v18, hin, hv, hg⟩ := rdA_ex hg
            refine xiald hx hb hK hP 1 rfl hin hv dX5_opens_61 ?_
            refine lv_iload hx hb dX5_opens_62 (lv_at hl 0 rfl) ?_
            refine lv_iadd hx hb dX5_opens_64 ?_
            obtain ⟨f19, hin, hv, hg⟩ := wrA_ex hg
            refine xiast (ws2 := [(A_t, .inr (5, [.int V_t_thrown, .ref A_t_s, .ref A_t_aside, .ref A_t_snapshot, .int V_t_isKept, .ref A_t_saved, .int V_t_savedMany, .ref A_t_text, .int V_t_length, .ref A_t_counts, .ref A_t_isCut, .ref A_t_strength, .ref A_t_fails, .ref A_t_why, .ref A_t_driver, .ref A_t_place, .ref A_t_isDone, .int V_t_position, .int V_t_isWrong, .long V_t_digested])), (A_t_s, .inl (cI, 77, .inl f19)), (A_t_isCut, .inl (cZ, 9, .inl f1)), (A_t_counts, .inl (cZ, 9, .inl f2)), (A_t_strength, .inl (cI, 9, .inl f3)), (A_t_fails, .inl (cZ, 9, .inl f4)), (A_t_driver, .inl (cI, 9, .inl f5)), (A_t_why, .inl (cI, 9, .inl f6)), (A_t_isDone, .inl (cZ, 9, .inl f7)), (A_t_place, .inl (cI, 9, .inl f8))]) hx hb hK hP hD hS 1 rfl hin hv rfl dX5_opens_65 (fun H locs hP hD hS => ?_)
            refine lv_aload_n hx hb dX5_opens_66 rfl (lv_at hl 4 rfl) ?_
            refine xget (ci := 5) (C := RX5) (T := TX5) (N := 20) (v := .ref A_t_s) hx hb hts in_X5_opens_X5 hown hK hP 0 rfl rfl 1 (by decide) wd_X5_opens_1 rfl dX5_opens_67 ?_
            refine lv_iload_n hx hb dX5_opens_70 rfl (lv_at hl 2 rfl) ?_
            refine lv_bipush (v := 6) hx hb dX5_opens_71 (by decide) ?_
            obtain ⟨v20, hq, hg⟩ := bind_ex hg
            refine callRSi (As := [.int v10, .int 6]) (rest := [.ref A_t_s]) S hK hP (c_X5_at l D cI cZ cB cJ v10 6 v20 hq) [] rfl (va_cwS 2 hts gX5_opens_X5_at rfl rfl rfl hd_X5_at ⟨Nat.le_of_ble_eq_true rfl, Nat.le_of_ble_eq_true rfl⟩) rfl hl.1 rfl (Nat.le_of_ble_eq_true rfl) dX5_opens_73 ⟨Nat.zero_le _, Nat.zero_le _⟩ ?_
            refine lv_dup2_11 hx hb dX5_opens_76 rfl rfl ?_
            obtain ⟨v21, hin, hv, hg⟩ := rdA_ex hg
            refine xiald hx hb hK hP 1 rfl hin hv dX5_opens_77 ?_
            refine lv_iload_n hx hb dX5_opens_78 rfl (lv_at hl 1 rfl) ?_
            refine lv_iadd hx hb dX5_opens_79 ?_
            obtain ⟨f22, hin, hv, hg⟩ := wrA_ex hg
            refine xiast (ws2 := [(A_t, .inr (5, [.int V_t_thrown, .ref A_t_s, .ref A_t_aside, .ref A_t_snapshot, .int V_t_isKept, .ref A_t_saved, .int V_t_savedMany, .ref A_t_text, .int V_t_length, .ref A_t_counts, .ref A_t_isCut, .ref A_t_strength, .ref A_t_fails, .ref A_t_why, .ref A_t_driver, .ref A_t_place, .ref A_t_isDone, .int V_t_position, .int V_t_isWrong, .long V_t_digested])), (A_t_s, .inl (cI, 77, .inl f22)), (A_t_isCut, .inl (cZ, 9, .inl f1)), (A_t_counts, .inl (cZ, 9, .inl f2)), (A_t_strength, .inl (cI, 9, .inl f3)), (A_t_fails, .inl (cZ, 9, .inl f4)), (A_t_driver, .inl (cI, 9, .inl f5)), (A_t_why, .inl (cI, 9, .inl f6)), (A_t_isDone, .inl (cZ, 9, .inl f7)), (A_t_place, .inl (cI, 9, .inl f8))]) hx hb hK hP hD hS 1 rfl hin hv rfl dX5_opens_80 (fun H locs hP hD hS => ?_)
            refine lv_aload_n hx hb dX5_opens_81 rfl (lv_at hl 4 rfl) ?_
            refine xget (ci := 5) (C := RX5) (T := TX5) (N := 20) (v := .ref A_t_s) hx hb hts in_X5_opens_X5 hown hK hP 0 rfl rfl 1 (by decide) wd_X5_opens_1 rfl dX5_opens_82 ?_
            refine lv_iconst (v := 3) hx hb dX5_opens_85 (by decide) ?_
            refine lv_dup2_11 hx hb dX5_opens_86 rfl rfl ?_
            obtain ⟨v23, hin, hv, hg⟩ := rdA_ex hg
            refine xiald hx hb hK hP 1 rfl hin hv dX5_opens_87 ?_
            refine lv_iload hx hb dX5_opens_88 (lv_at hl 0 rfl) ?_
            refine lv_iadd hx hb dX5_opens_90 ?_
            obtain ⟨f24, hin, hv, hg⟩ := wrA_ex hg
            refine xiast (ws2 := [(A_t, .inr (5, [.int V_t_thrown, .ref A_t_s, .ref A_t_aside, .ref A_t_snapshot, .int V_t_isKept, .ref A_t_saved, .int V_t_savedMany, .ref A_t_text, .int V_t_length, .ref A_t_counts, .ref A_t_isCut, .ref A_t_strength, .ref A_t_fails, .ref A_t_why, .ref A_t_driver, .ref A_t_place, .ref A_t_isDone, .int V_t_position, .int V_t_isWrong, .long V_t_digested])), (A_t_s, .inl (cI, 77, .inl f24)), (A_t_isCut, .inl (cZ, 9, .inl f1)), (A_t_counts, .inl (cZ, 9, .inl f2)), (A_t_strength, .inl (cI, 9, .inl f3)), (A_t_fails, .inl (cZ, 9, .inl f4)), (A_t_driver, .inl (cI, 9, .inl f5)), (A_t_why, .inl (cI, 9, .inl f6)), (A_t_isDone, .inl (cZ, 9, .inl f7)), (A_t_place, .inl (cI, 9, .inl f8))]) hx hb hK hP hD hS 1 rfl hin hv rfl dX5_opens_91 (fun H locs hP hD hS => ?_)
            refine lv_aload_n hx hb dX5_opens_92 rfl (lv_at hl 4 rfl) ?_
            refine xget (ci := 5) (C := RX5) (T := TX5) (N := 20) (v := .ref A_t_s) hx hb hts in_X5_opens_X5 hown hK hP 0 rfl rfl 1 (by decide) wd_X5_opens_1 rfl dX5_opens_93 ?_
            refine lv_iconst (v := 4) hx hb dX5_opens_96 (by decide) ?_
            refine lv_dup2_11 hx hb dX5_opens_97 rfl rfl ?_
            obtain ⟨v25, hin, hv, hg⟩ := rdA_ex hg
            refine xiald hx hb hK hP 1 rfl hin hv dX5_opens_98 ?_
            refine lv_iload_n hx hb dX5_opens_99 rfl (lv_at hl 1 rfl) ?_
            refine lv_iadd hx hb dX5_opens_100 ?_
            obtain ⟨f26, hin, hv, hg⟩ := wrA_ex hg
            refine xiast (ws2 := [(A_t, .inr (5, [.int V_t_thrown, .ref A_t_s, .ref A_t_aside, .ref A_t_snapshot, .int V_t_isKept, .ref A_t_saved, .int V_t_savedMany, .ref A_t_text, .int V_t_length, .ref A_t_counts, .ref A_t_isCut, .ref A_t_strength, .ref A_t_fails, .ref A_t_why, .ref A_t_driver, .ref A_t_place, .ref A_t_isDone, .int V_t_position, .int V_t_isWrong, .long V_t_digested])), (A_t_s, .inl (cI, 77, .inl f26)), (A_t_isCut, .inl (cZ, 9, .inl f1)), (A_t_counts, .inl (cZ, 9, .inl f2)), (A_t_strength, .inl (cI, 9, .inl f3)), (A_t_fails, .inl (cZ, 9, .inl f4)), (A_t_driver, .inl (cI, 9, .inl f5)), (A_t_why, .inl (cI, 9, .inl f6)), (A_t_isDone, .inl (cZ, 9, .inl f7)), (A_t_place, .inl (cI, 9, .inl f8))]) hx hb hK hP hD hS 1 rfl hin hv rfl dX5_opens_101 (fun H locs hP hD hS => ?_)
            refine lv_aload_n hx hb dX5_opens_102 rfl (lv_at hl 4 rfl) ?_
            refine xget (ci := 5) (C := RX5) (T := TX5) (N := 20) (v := .ref A_t_s) hx hb hts in_X5_opens_X5 hown hK hP 0 rfl rfl 1 (by decide) wd_X5_opens_1 rfl dX5_opens_103 ?_
            refine lv_iconst (v := 5) hx hb dX5_opens_106 (by decide) ?_
            refine lv_dup2_11 hx hb dX5_opens_107 rfl rfl ?_
            obtain ⟨v27, hin, hv, hg⟩ := rdA_ex hg
            refine xiald hx hb hK hP 1 rfl hin hv dX5_opens_108 ?_
            refine lv_aload_n hx hb dX5_opens_109 rfl (lv_at hl 4 rfl) ?_
            refine xget (ci := 5) (C := RX5) (T := TX5) (N := 20) (v := .ref A_t_driver) hx hb hts in_X5_opens_X5 hown hK hP 0 rfl rfl 14 (by decide) wd_X5_opens_3 rfl dX5_opens_110 ?_
            refine lv_iload_n hx hb dX5_opens_113 rfl (lv_at hl 2 rfl) ?_
            obtain ⟨v28, hin, hv, hg⟩ := rdA_ex hg
            refine xiald hx hb hK hP 6 rfl hin hv dX5_opens_114 ?_
            refine lv_iconst (v := (-1)) hx hb dX5_opens_115 (by decide) ?_
            have hJ3 : ∀ (v29 : Int32), bo v29 → ∀ (H : Heap) (locs : List Loc), va_P D vwCl [(A_t, .inr (5, [.int V_t_thrown, .ref A_t_s, .ref A_t_aside, .ref A_t_snapshot, .int V_t_isKept, .ref A_t_saved, .int V_t_savedMany, .ref A_t_text, .int V_t_length, .ref A_t_counts, .ref A_t_isCut, .ref A_t_strength, .ref A_t_fails, .ref A_t_why, .ref A_t_driver, .ref A_t_place, .ref A_t_isDone, .int V_t_position, .int V_t_isWrong, .long V_t_digested])), (A_t_s, .inl (cI, 77, .inl f26)), (A_t_isCut, .inl (cZ, 9, .inl f1)), (A_t_counts, .inl (cZ, 9, .inl f2)), (A_t_strength, .inl (cI, 9, .inl f3)), (A_t_fails, .inl (cZ, 9, .inl f4)), (A_t_driver, .inl (cI, 9, .inl f5)), (A_t_why, .inl (cI, 9, .inl f6)), (A_t_isDone, .inl (cZ, 9, .inl f7)), (A_t_place, .inl (cI, 9, .inl f8))] H → va_D A [(A_t, .inr (5, [.int V_t_thrown, .ref A_t_s, .ref A_t_aside, .ref A_t_snapshot, .int V_t_isKept, .ref A_t_saved, .int V_t_savedMany, .ref A_t_text, .int V_t_length, .ref A_t_counts, .ref A_t_isCut, .ref A_t_strength, .ref A_t_fails, .ref A_t_why, .ref A_t_driver, .ref A_t_place, .ref A_t_isDone, .int V_t_position, .int V_t_isWrong, .long V_t_digested])), (A_t_s, .inl (cI, 77, .inl f26)), (A_t_isCut, .inl (cZ, 9, .inl f1)), (A_t_counts, .inl (cZ, 9, .inl f2)), (A_t_strength, .inl (cI, 9, .inl f3)), (A_t_fails, .inl (cZ, 9, .inl f4)), (A_t_driver, .inl (cI, 9, .inl f5)), (A_t_why, .inl (cI, 9, .inl f6)), (A_t_isDone, .inl (cZ, 9, .inl f7)), (A_t_place, .inl (cI, 9, .inl f8))] → va_S A s.heap H locs → ∀ ls : Array Slot, lv_has ls 5 [(3, .int v14), (2, .int v10), (1, .int v9), (0, .ref A_t)] → g_X5_opens_J3 f26 v27 f8 v10 v9 v14 (g_X5_opens_L1 f4 f5 f8 nf) v29 = some (v35, f36) → W p l e rX5_opens s m args below meth c H locs 0 0 Q (F0 m 124 ls [.int v29, .int v27, .int 5, .ref A_t_s]) := by
              intro v29 hz_v29 H locs hP hD hS ls hl hg
              unfold g_X5_opens_J3 at hg
              refine lv_iadd hx hb dX5_opens_124 ?_
              obtain ⟨f30, hin, hv, hg⟩ := wrA_ex hg
              refine xiast (ws2 := [(A_t, .inr (5, [.int V_t_thrown, .ref A_t_s, .ref A_t_aside, .ref A_t_snapshot, .int V_t_isKept, .ref A_t_saved, .int V_t_savedMany, .ref A_t_text, .int V_t_length, .ref A_t_counts, .ref A_t_isCut, .ref A_t_strength, .ref A_t_fails, .ref A_t_why, .ref A_t_driver, .ref A_t_place, .ref A_t_isDone, .int V_t_position, .int V_t_isWrong, .long V_t_digested])), (A_t_s, .inl (cI, 77, .inl f30)), (A_t_isCut, .inl (cZ, 9, .inl f1)), (A_t_counts, .inl (cZ, 9, .inl f2)), (A_t_strength, .inl (cI, 9, .inl f3)), (A_t_fails, .inl (cZ, 9, .inl f4)), (A_t_driver, .inl (cI, 9, .inl f5)), (A_t_why, .inl (cI, 9, .inl f6)), (A_t_isDone, .inl (cZ, 9, .inl f7)), (A_t_place, .inl (cI, 9, .inl f8))]) hx hb hK hP hD hS 1 rfl hin hv rfl dX5_opens_125 (fun H locs hP hD hS => ?_)
              refine lv_aload_n hx hb dX5_opens_126 rfl (lv_at hl 3 rfl) ?_
              refine xget (ci := 5) (C := RX5) (T := TX5) (N := 20) (v := .ref A_t_s) hx hb hts in_X5_opens_X5 hown hK hP 0 rfl rfl 1 (by decide) wd_X5_opens_1 rfl dX5_opens_127 ?_
              refine lv_bipush (v := 6) hx hb dX5_opens_130 (by decide) ?_
              refine lv_dup2_11 hx hb dX5_opens_132 rfl rfl ?_
              obtain ⟨v31, hin, hv, hg⟩ := rdA_ex hg
              refine xiald hx hb hK hP 1 rfl hin hv dX5_opens_133 ?_
              refine lv_aload_n hx hb dX5_opens_134 rfl (lv_at hl 3 rfl) ?_
              refine xget (ci := 5) (C := RX5) (T := TX5) (N := 20) (v := .ref A_t_place) hx hb hts in_X5_opens_X5 hown hK hP 0 rfl rfl 15 (by decide) wd_X5_opens_4 rfl dX5_opens_135 ?_
              refine lv_iload_n hx hb dX5_opens_138 rfl (lv_at hl 1 rfl) ?_
              obtain ⟨v32, hin, hv, hg⟩ := rdA_ex hg
              refine xiald hx hb hK hP 9 rfl hin hv dX5_opens_139 ?_
              refine lv_iconst (v := (-1)) hx hb dX5_opens_140 (by decide) ?_
              have hJ4 : ∀ (v33 : Int32), bo v33 → ∀ (H : Heap) (locs : List Loc), va_P D vwCl [(A_t, .inr (5, [.int V_t_thrown, .ref A_t_s, .ref A_t_aside, .ref A_t_snapshot, .int V_t_isKept, .ref A_t_saved, .int V_t_savedMany, .ref A_t_text, .int V_t_length, .ref A_t_counts, .ref A_t_isCut, .ref A_t_strength, .ref A_t_fails, .ref A_t_why, .ref A_t_driver, .ref A_t_place, .ref A_t_isDone, .int V_t_position, .int V_t_isWrong, .long V_t_digested])), (A_t_s, .inl (cI, 77, .inl f30)), (A_t_isCut, .inl (cZ, 9, .inl f1)), (A_t_counts, .inl (cZ, 9, .inl f2)), (A_t_strength, .inl (cI, 9, .inl f3)), (A_t_fails, .inl (cZ, 9, .inl f4)), (A_t_driver, .inl (cI, 9, .inl f5)), (A_t_why, .inl (cI, 9, .inl f6)), (A_t_isDone, .inl (cZ, 9, .inl f7)), (A_t_place, .inl (cI, 9, .inl f8))] H → va_D A [(A_t, .inr (5, [.int V_t_thrown, .ref A_t_s, .ref A_t_aside, .ref A_t_snapshot, .int V_t_isKept, .ref A_t_saved, .int V_t_savedMany, .ref A_t_text, .int V_t_length, .ref A_t_counts, .ref A_t_isCut, .ref A_t_strength, .ref A_t_fails, .ref A_t_why, .ref A_t_driver, .ref A_t_place, .ref A_t_isDone, .int V_t_position, .int V_t_isWrong, .long V_t_digested])), (A_t_s, .inl (cI, 77, .inl f30)), (A_t_isCut, .inl (cZ, 9, .inl f1)), (A_t_counts, .inl (cZ, 9, .inl f2)), (A_t_strength, .inl (cI, 9, .inl f3)), (A_t_fails, .inl (cZ, 9, .inl f4)), (A_t_driver, .inl (cI, 9, .inl f5)), (A_t_why, .inl (cI, 9, .inl f6)), (A_t_isDone, .inl (cZ, 9, .inl f7)), (A_t_place, .inl (cI, 9, .inl f8))] → va_S A s.heap H locs → ∀ ls : Array Slot, lv_has ls 5 [(3, .int v14), (2, .int v10), (1, .int v9), (0, .ref A_t)] → g_X5_opens_J4 f30 v31 v9 v14 v10 (g_X5_opens_L1 f4 f5 f8 nf) v33 = some (v35, f36) → W p l e rX5_opens s m args below meth c H locs 0 0 Q (F0 m 149 ls [.int v33, .int v31, .int 6, .ref A_t_s]) := by
                intro v33 hz_v33 H locs hP hD hS ls hl hg
                unfold g_X5_opens_J4 at hg
                refine lv_iadd hx hb dX5_opens_149 ?_
                obtain ⟨f34, hin, hv, hg⟩ := wrA_ex hg
                refine xiast (ws2 := [(A_t, .inr (5, [.int V_t_thrown, .ref A_t_s, .ref A_t_aside, .ref A_t_snapshot, .int V_t_isKept, .ref A_t_saved, .int V_t_savedMany, .ref A_t_text, .int V_t_length, .ref A_t_counts, .ref A_t_isCut, .ref A_t_strength, .ref A_t_fails, .ref A_t_why, .ref A_t_driver, .ref A_t_place, .ref A_t_isDone, .int V_t_position, .int V_t_isWrong, .long V_t_digested])), (A_t_s, .inl (cI, 77, .inl f34)), (A_t_isCut, .inl (cZ, 9, .inl f1)), (A_t_counts, .inl (cZ, 9, .inl f2)), (A_t_strength, .inl (cI, 9, .inl f3)), (A_t_fails, .inl (cZ, 9, .inl f4)), (A_t_driver, .inl (cI, 9, .inl f5)), (A_t_why, .inl (cI, 9, .inl f6)), (A_t_isDone, .inl (cZ, 9, .inl f7)), (A_t_place, .inl (cI, 9, .inl f8))]) hx hb hK hP hD hS 1 rfl hin hv rfl dX5_opens_150 (fun H locs hP hD hS => ?_)
                refine lv_iload_n hx hb dX5_opens_151 rfl (lv_at hl 2 rfl) ?_
                refine lv_iload_n hx hb dX5_opens_152 rfl (lv_at hl 0 rfl) ?_
                refine lv_iadd hx hb dX5_opens_153 ?_
                refine lv_istore_n (lv' := [(1, .int (v9 + v14)), (3, .int v14), (2, .int v10), (0, .ref A_t)]) hx hb dX5_opens_154 rfl hl (by decide) rfl (fun ls hl => ?_)
                refine lv_iinc (v := (v10 + 1)) (lv' := [(2, .int (v10 + 1)), (1, .int (v9 + v14)), (3, .int v14), (0, .ref A_t)]) hx hb dX5_opens_155 hl (k := 2) rfl rfl (by decide) rfl (fun ls hl => ?_)
                refine lv_goto (tgt := 8) hx hb dX5_opens_158 (by decide) ?_
                exact ih _ _ _ _ _ hP hD hS _ (lv_sub hl [0, 1, 3] rfl) hg
              refine lv_icmp_ne (tgt := 148) hx hb dX5_opens_141 (by decide) (fun hc => ?_) (fun hc => ?_)
              · replace hg := if_no hg hc
                refine lv_iconst (v := 0) hx hb dX5_opens_148 (by decide) ?_
                exact hJ4 _ bo_0 _ _ hP hD hS _ (lv_sub hl [0, 1, 2, 3] rfl) hg
              · replace hg := if_yes hg hc
                refine lv_iconst (v := 1) hx hb dX5_opens_144 (by decide) ?_
                refine lv_goto (tgt := 149) hx hb dX5_opens_145 (by decide) ?_
                exact hJ4 _ bo_1 _ _ hP hD hS _ (lv_sub hl [0, 1, 2, 3] rfl) hg
            refine lv_icmp_ne (tgt := 123) hx hb dX5_opens_116 (by decide) (fun hc => ?_) (fun hc => ?_)
            · replace hg := if_no hg hc
              refine lv_iconst (v := 1) hx hb dX5_opens_123 (by decide) ?_
              exact hJ3 _ bo_1 _ _ hP hD hS _ (lv_sub hl [1, 2, 3, 4] rfl) hg
            · replace hg := if_yes hg hc
              refine lv_iconst (v := 0) hx hb dX5_opens_119 (by decide) ?_
              refine lv_goto (tgt := 124) hx hb dX5_opens_120 (by decide) ?_
              exact hJ3 _ bo_0 _ _ hP hD hS _ (lv_sub hl [1, 2, 3, 4] rfl) hg
          refine lv_if_eq (tgt := 48) hx hb dX5_opens_39 (by decide) (fun hc => ?_) (fun hc => ?_)
          · replace hg := if_yes hg hc
            refine lv_iconst (v := 0) hx hb dX5_opens_48 (by decide) ?_
            exact hJ2 _ _ _ hP hD hS _ (lv_sub hl [0, 1, 2, 3] rfl) hg
          · replace hg := if_no hg hc
            refine lv_iconst (v := 1) hx hb dX5_opens_42 (by decide) ?_
            refine lv_iload_n hx hb dX5_opens_43 rfl (lv_at hl 0 rfl) ?_
            refine lv_isub hx hb dX5_opens_44 ?_
            refine lv_goto (tgt := 49) hx hb dX5_opens_45 (by decide) ?_
            exact hJ2 _ _ _ hP hD hS _ (lv_sub hl [0, 1, 2, 3] rfl) hg
        refine lv_if_eq (tgt := 32) hx hb dX5_opens_25 (by decide) (fun hc => ?_) (fun hc => ?_)
        · replace hg := if_yes hg hc
          refine lv_iconst (v := 0) hx hb dX5_opens_32 (by decide) ?_
          exact hJ1 _ bo_0 _ _ hP hD hS _ (lv_sub hl [0, 1, 2] rfl) hg
        · replace hg := if_no hg hc
          refine lv_iconst (v := 1) hx hb dX5_opens_28 (by decide) ?_
          refine lv_goto (tgt := 33) hx hb dX5_opens_29 (by decide) ?_
          exact hJ1 _ bo_1 _ _ hP hD hS _ (lv_sub hl [0, 1, 2] rfl) hg
  exact L FU _ _ _ _ _ hP hD hS _ (lv_sub hl [0, 1, 2] rfl) hL
theorem hd_X5_belongs : yX5_belongs.cls = RX5 ∧ yX5_belongs.cls ≠ "java/lang/invoke/MethodHandle" ∧ yX5_belongs.cls ≠ "java/lang/invoke/VarHandle" ∧ (parseMethodDescriptor yX5_belongs.desc).map (fun d => d.parameters.length) = some 0 := by decide +kernel
theorem in_X5_belongs_X5 : ∀ w ∈ u_ws RX5 TX5 20, w ∈ wsX5_belongs := fun _ h => List.mem_cons_of_mem _ (List.mem_append_right _ h)
theorem wd_X5_belongs_1 : Cond.fieldLink RX5 7 "FogOrdersModel" "s" "[I" ∈ wsX5_belongs := List.mem_of_getElem? (i := 1) rfl
abbrev rX5_belongs : Room := { frames := 3, cells := 0, slots := 0, locals := 66 }
set_option maxHeartbeats 4000000 in
set_option maxRecDepth 100000 in
theorem c_X5_belongs (l : Launch) (D : va_G) (cI cZ cB cJ : ClassId) (A_t : Nat) (A_t_s : Nat) (A_t_aside : Nat) (A_t_snapshot : Nat) (A_t_saved : Nat) (A_t_text : Nat) (A_t_counts : Nat) (A_t_isCut : Nat) (A_t_strength : Nat) (A_t_fails : Nat) (A_t_why : Nat) (A_t_driver : Nat) (A_t_place : Nat) (A_t_isDone : Nat) (sz : Nat) (V_t_thrown : Int32) (V_t_isKept : Int32) (V_t_savedMany : Int32) (V_t_length : Int32) (V_t_position : Int32) (V_t_isWrong : Int32) (V_t_digested : Int64) (V_t_s : Nat → Int32) (w1 : Nat → Int32) (hg : g_X5_belongs V_t_s = some w1) : Met l yX5_belongs wsX5_belongs rX5_belongs (PcW D cI cZ cB cJ sz [(A_t, .inr (5, [.int V_t_thrown, .ref A_t_s, .ref A_t_aside, .ref A_t_snapshot, .int V_t_isKept, .ref A_t_saved, .int V_t_savedMany, .ref A_t_text, .int V_t_length, .ref A_t_counts, .ref A_t_isCut, .ref A_t_strength, .ref A_t_fails, .ref A_t_why, .ref A_t_driver, .ref A_t_place, .ref A_t_isDone, .int V_t_position, .int V_t_isWrong, .long V_t_digested])), (A_t_s, .inl (cI, 77, .inl V_t_s))] [.ref A_t]) (QWv D cI cZ cB cJ sz [(A_t, .inr (5, [.int V_t_thrown, .ref A_t_s, .ref A_t_aside, .ref A_t_snapshot, .int V_t_isKept, .ref A_t_saved, .int V_t_savedMany, .ref A_t_text, .int V_t_length, .ref A_t_counts, .ref A_t_isCut, .ref A_t_strength, .ref A_t_fails, .ref A_t_why, .ref A_t_driver, .ref A_t_place, .ref A_t_isDone, .int V_t_position, .int V_t_isWrong, .long V_t_digested])), (A_t_s, .inl (cI, 77, .inl V_t_s))] [(A_t, .inr (5, [.int V_t_thrown, .ref A_t_s, .ref A_t_aside, .ref A_t_snapshot, .int V_t_isKept, .ref A_t_saved, .int V_t_savedMany, .ref A_t_text, .int V_t_length, .ref A_t_counts, .ref A_t_isCut, .ref A_t_strength, .ref A_t_fails, .ref A_t_why, .ref A_t_driver, .ref A_t_place, .ref A_t_isDone, .int V_t_position, .int V_t_isWrong, .long V_t_digested])), (A_t_s, .inl (cI, 77, .inl w1))]) 0 0 (va_A [(A_t, .inr (5, [.int V_t_thrown, .ref A_t_s, .ref A_t_aside, .ref A_t_snapshot, .int V_t_isKept, .ref A_t_saved, .int V_t_savedMany, .ref A_t_text, .int V_t_length, .ref A_t_counts, .ref A_t_isCut, .ref A_t_strength, .ref A_t_fails, .ref A_t_why, .ref A_t_driver, .ref A_t_place, .ref A_t_isDone, .int V_t_position, .int V_t_isWrong, .long V_t_digested])), (A_t_s, .inl (cI, 77, .inl V_t_s))] sz) := by
  refine bodyWv (cc := cX5_belongs) (maxL := 3) (lv := [(0, .ref A_t)]) (by decide) rfl (Nat.le_of_ble_eq_true rfl) rfl ?_
  intro p e s m args below meth c Q hx hb hml hown hts A hP hK hD hA hS fin ls hl
  replace hown : s.vm.findClass RX5 = some m.cls := hown
  have S : CallFix p m c cX5_belongs 3 s args wsX5_belongs RX5 := ⟨hx, hb, hml, hown, hts⟩
  unfold g_X5_belongs at hg
  refine lv_iconst (v := 0) hx hb dX5_belongs_0 (by decide) ?_
  refine lv_istore_n (lv' := [(1, .int 0), (0, .ref A_t)]) hx hb dX5_belongs_1 rfl hl (by decide) rfl (fun ls hl => ?_)
  obtain ⟨f8, hL, hg⟩ := bind_ex hg
  have kx : ∀ (H : Heap) (locs : List Loc), va_P D vwCl [(A_t, .inr (5, [.int V_t_thrown, .ref A_t_s, .ref A_t_aside, .ref A_t_snapshot, .int V_t_isKept, .ref A_t_saved, .int V_t_savedMany, .ref A_t_text, .int V_t_length, .ref A_t_counts, .ref A_t_isCut, .ref A_t_strength, .ref A_t_fails, .ref A_t_why, .ref A_t_driver, .ref A_t_place, .ref A_t_isDone, .int V_t_position, .int V_t_isWrong, .long V_t_digested])), (A_t_s, .inl (cI, 77, .inl f8))] H → va_D A [(A_t, .inr (5, [.int V_t_thrown, .ref A_t_s, .ref A_t_aside, .ref A_t_snapshot, .int V_t_isKept, .ref A_t_saved, .int V_t_savedMany, .ref A_t_text, .int V_t_length, .ref A_t_counts, .ref A_t_isCut, .ref A_t_strength, .ref A_t_fails, .ref A_t_why, .ref A_t_driver, .ref A_t_place, .ref A_t_isDone, .int V_t_position, .int V_t_isWrong, .long V_t_digested])), (A_t_s, .inl (cI, 77, .inl f8))] → va_S A s.heap H locs → ∀ ls : Array Slot, lv_has ls 3 [] → W p l e rX5_belongs s m args below meth c H locs 0 0 Q (F0 m 53 ls []) := by
    intro H locs hP hD hS ls hl
    cases hg
    exact fin _ _ _ _ dX5_belongs_53 hP hD hS
  have L : ∀ (nf : Nat) (v1 : Int32) (f2 : Nat → Int32), ∀ (H : Heap) (locs : List Loc), va_P D vwCl [(A_t, .inr (5, [.int V_t_thrown, .ref A_t_s, .ref A_t_aside, .ref A_t_snapshot, .int V_t_isKept, .ref A_t_saved, .int V_t_savedMany, .ref A_t_text, .int V_t_length, .ref A_t_counts, .ref A_t_isCut, .ref A_t_strength, .ref A_t_fails, .ref A_t_why, .ref A_t_driver, .ref A_t_place, .ref A_t_isDone, .int V_t_position, .int V_t_isWrong, .long V_t_digested])), (A_t_s, .inl (cI, 77, .inl f2))] H → va_D A [(A_t, .inr (5, [.int V_t_thrown, .ref A_t_s, .ref A_t_aside, .ref A_t_snapshot, .int V_t_isKept, .ref A_t_saved, .int V_t_savedMany, .ref A_t_text, .int V_t_length, .ref A_t_counts, .ref A_t_isCut, .ref A_t_strength, .ref A_t_fails, .ref A_t_why, .ref A_t_driver, .ref A_t_place, .ref A_t_isDone, .int V_t_position, .int V_t_isWrong, .long V_t_digested])), (A_t_s, .inl (cI, 77, .inl f2))] → va_S A s.heap H locs → ∀ ls : Array Slot, lv_has ls 3 [(1, .int v1), (0, .ref A_t)] → g_X5_belongs_L1 nf v1 f2 = some f8 → W p l e rX5_belongs s m args below meth c H locs 0 0 Q (F0 m 2 ls []) := by
    intro nf
    induction nf with
    | zero =>
      intro v1 f2 H locs hP hD hS ls hl hg
      exact no_some hg
    | succ nf ih =>
      intro v1 f2 H locs hP hD hS ls hl hg
      rw [g_X5_belongs_L1] at hg
      refine lv_iload_n hx hb dX5_belongs_2 rfl (lv_at hl 0 rfl) ?_
      refine lv_iconst (v := 4) hx hb dX5_belongs_3 (by decide) ?_
      refine lv_icmp_ge (tgt := 53) hx hb dX5_belongs_4 (by decide) (fun hc => ?_) (fun hc => ?_)
      · replace hg := if_yes hg hc
        cases hg
        exact kx _ _ hP hD hS _ (lv_sub hl [] rfl)
      · replace hg := if_no hg hc
        refine lv_aload_n hx hb dX5_belongs_7 rfl (lv_at hl 1 rfl) ?_
        refine lv_iconst (v := 3) hx hb dX5_belongs_8 (by decide) ?_
        refine lv_iload_n hx hb dX5_belongs_9 rfl (lv_at hl 0 rfl) ?_
        refine lv_imul hx hb dX5_belongs_10 ?_
        obtain ⟨v3, hq, hg⟩ := bind_ex hg
        refine callRVi (As := [.int (3 * v1)]) (rest := []) S hK hP (c_X5_armyOn l D cI cZ cB cJ A_t A_t_s A_t_aside A_t_snapshot A_t_saved A_t_text A_t_counts A_t_isCut A_t_strength A_t_fails A_t_why A_t_driver A_t_place A_t_isDone V_t_thrown V_t_isKept V_t_savedMany V_t_length V_t_position V_t_isWrong V_t_digested f2 (3 * v1) v3 hq) [0, 1] rfl (cwV 1 hts gX5_belongs_X5_armyOn rfl rfl rfl hd_X5_armyOn ⟨Nat.le_of_ble_eq_true rfl, Nat.le_of_ble_eq_true rfl⟩) rfl rfl rfl hl.1 rfl (Nat.le_of_ble_eq_true rfl) dX5_belongs_11 ⟨Nat.zero_le _, Nat.zero_le _⟩ ?_
        refine lv_istore_n (lv' := [(2, .int v3), (1, .int v1), (0, .ref A_t)]) hx hb dX5_belongs_14 rfl hl (by decide) rfl (fun ls hl => ?_)
        refine lv_aload_n hx hb dX5_belongs_15 rfl (lv_at hl 2 rfl) ?_
        refine xget (ci := 5) (C := RX5) (T := TX5) (N := 20) (v := .ref A_t_s) hx hb hts in_X5_belongs_X5 hown hK hP 0 rfl rfl 1 (by decide) wd_X5_belongs_1 rfl dX5_belongs_16 ?_
        refine lv_bipush (v := 10) hx hb dX5_belongs_19 (by decide) ?_
        refine lv_iload_n hx hb dX5_belongs_21 rfl (lv_at hl 1 rfl) ?_
        refine lv_iadd hx hb dX5_belongs_22 ?_
        refine lv_iload_n hx hb dX5_belongs_23 rfl (lv_at hl 0 rfl) ?_
        refine lv_iconst (v := (-1)) hx hb dX5_belongs_24 (by decide) ?_
        have hJ1 : ∀ (v6 : Int32), ∀ (H : Heap) (locs : List Loc), va_P D vwCl [(A_t, .inr (5, [.int V_t_thrown, .ref A_t_s, .ref A_t_aside, .ref A_t_snapshot, .int V_t_isKept, .ref A_t_saved, .int V_t_savedMany, .ref A_t_text, .int V_t_length, .ref A_t_counts, .ref A_t_isCut, .ref A_t_strength, .ref A_t_fails, .ref A_t_why, .ref A_t_driver, .ref A_t_place, .ref A_t_isDone, .int V_t_position, .int V_t_isWrong, .long V_t_digested])), (A_t_s, .inl (cI, 77, .inl f2))] H → va_D A [(A_t, .inr (5, [.int V_t_thrown, .ref A_t_s, .ref A_t_aside, .ref A_t_snapshot, .int V_t_isKept, .ref A_t_saved, .int V_t_savedMany, .ref A_t_text, .int V_t_length, .ref A_t_counts, .ref A_t_isCut, .ref A_t_strength, .ref A_t_fails, .ref A_t_why, .ref A_t_driver, .ref A_t_place, .ref A_t_isDone, .int V_t_position, .int V_t_isWrong, .long V_t_digested])), (A_t_s, .inl (cI, 77, .inl f2))] → va_S A s.heap H locs → ∀ ls : Array Slot, lv_has ls 3 [(1, .int v1), (0, .ref A_t)] → g_X5_belongs_J1 f2 v1 (g_X5_belongs_L1 nf) v6 = some f8 → W p l e rX5_belongs s m args below meth c H locs 0 0 Q (F0 m 46 ls [.int v6, .int (10 + v1), .ref A_t_s]) := by
          intro v6 H locs hP hD hS ls hl hg
          unfold g_X5_belongs_J1 at hg
          obtain ⟨f7, hin, hv, hg⟩ := wrA_ex hg
          refine xiast (ws2 := [(A_t, .inr (5, [.int V_t_thrown, .ref A_t_s, .ref A_t_aside, .ref A_t_snapshot, .int V_t_isKept, .ref A_t_saved, .int V_t_savedMany, .ref A_t_text, .int V_t_length, .ref A_t_counts, .ref A_t_isCut, .ref A_t_strength, .ref A_t_fails, .ref A_t_why, .ref A_t_driver, .ref A_t_place, .ref A_t_isDone, .int V_t_position, .int V_t_isWrong, .long V_t_digested])), (A_t_s, .inl (cI, 77, .inl f7))]) hx hb hK hP hD hS 1 rfl hin hv rfl dX5_belongs_46 (fun H locs hP hD hS => ?_)
          refine lv_iinc (v := (v1 + 1)) (lv' := [(1, .int (v1 + 1)), (0, .ref A_t)]) hx hb dX5_belongs_47 hl (k := 0) rfl rfl (by decide) rfl (fun ls hl => ?_)
          refine lv_goto (tgt := 2) hx hb dX5_belongs_50 (by decide) ?_
          exact ih _ _ _ _ hP hD hS _ (lv_sub hl [0, 1] rfl) hg
        refine lv_icmp_ne (tgt := 40) hx hb dX5_belongs_25 (by decide) (fun hc => ?_) (fun hc => ?_)
        · replace hg := if_no hg hc
          refine lv_aload_n hx hb dX5_belongs_40 rfl (lv_at hl 2 rfl) ?_
          refine lv_iload_n hx hb dX5_belongs_41 rfl (lv_at hl 0 rfl) ?_
          refine lv_iconst (v := 0) hx hb dX5_belongs_42 (by decide) ?_
          obtain ⟨v4, hq, hg⟩ := bind_ex hg
          refine callRVi (As := [.int v3, .int 0]) (rest := [.int (10 + v1), .ref A_t_s]) S hK hP (c_X5_of l D cI cZ cB cJ A_t A_t_s A_t_aside A_t_snapshot A_t_saved A_t_text A_t_counts A_t_isCut A_t_strength A_t_fails A_t_why A_t_driver A_t_place A_t_isDone V_t_thrown V_t_isKept V_t_savedMany V_t_length V_t_position V_t_isWrong V_t_digested f2 v3 0 v4 hq) [0, 1] rfl (cwV 2 hts gX5_belongs_X5_of rfl rfl rfl hd_X5_of ⟨Nat.le_of_ble_eq_true rfl, Nat.le_of_ble_eq_true rfl⟩) rfl rfl rfl hl.1 rfl (Nat.le_of_ble_eq_true rfl) dX5_belongs_43 ⟨Nat.zero_le _, Nat.zero_le _⟩ ?_
          exact hJ1 _ _ _ hP hD hS _ (lv_sub hl [1, 2] rfl) hg
        · replace hg := if_yes hg hc
          refine lv_aload_n hx hb dX5_belongs_28 rfl (lv_at hl 2 rfl) ?_
          refine xget (ci := 5) (C := RX5) (T := TX5) (N := 20) (v := .ref A_t_s) hx hb hts in_X5_belongs_X5 hown hK hP 0 rfl rfl 1 (by decide) wd_X5_belongs_1 rfl dX5_belongs_29 ?_
          refine lv_bipush (v := 10) hx hb dX5_belongs_32 (by decide) ?_
          refine lv_iload_n hx hb dX5_belongs_34 rfl (lv_at hl 1 rfl) ?_
          refine lv_iadd hx hb dX5_belongs_35 ?_
          obtain ⟨v5, hin, hv, hg⟩ := rdA_ex hg
          refine xiald hx hb hK hP 1 rfl hin hv dX5_belongs_36 ?_
          refine lv_goto (tgt := 46) hx hb dX5_belongs_37 (by decide) ?_
          exact hJ1 _ _ _ hP hD hS _ (lv_sub hl [1, 2] rfl) hg
  exact L FU _ _ _ _ hP hD hS _ (lv_sub hl [0, 1] rfl) hL
theorem hd_X5_centresOf : yX5_centresOf.cls = RX5 ∧ yX5_centresOf.cls ≠ "java/lang/invoke/MethodHandle" ∧ yX5_centresOf.cls ≠ "java/lang/invoke/VarHandle" ∧ (parseMethodDescriptor yX5_centresOf.desc).map (fun d => d.parameters.length) = some 1 := by decide +kernel
theorem in_X5_centresOf_X5 : ∀ w ∈ u_ws RX5 TX5 20, w ∈ wsX5_centresOf := fun _ h => List.mem_cons_of_mem _ (List.mem_append_right _ h)
theorem wd_X5_centresOf_1 : Cond.fieldLink RX5 7 "FogOrdersModel" "s" "[I" ∈ wsX5_centresOf := List.mem_of_getElem? (i := 1) rfl
abbrev rX5_centresOf : Room := { frames := 0, cells := 0, slots := 0, locals := 0 }
set_option maxHeartbeats 4000000 in
set_option maxRecDepth 100000 in
theorem c_X5_centresOf (l : Launch) (D : va_G) (cI cZ cB cJ : ClassId) (A_t : Nat) (A_t_s : Nat) (A_t_aside : Nat) (A_t_snapshot : Nat) (A_t_saved : Nat) (A_t_text : Nat) (A_t_counts : Nat) (A_t_isCut : Nat) (A_t_strength : Nat) (A_t_fails : Nat) (A_t_why : Nat) (A_t_driver : Nat) (A_t_place : Nat) (A_t_isDone : Nat) (V_t_thrown : Int32) (V_t_isKept : Int32) (V_t_savedMany : Int32) (V_t_length : Int32) (V_t_position : Int32) (V_t_isWrong : Int32) (V_t_digested : Int64) (V_t_s : Nat → Int32) (x1 : Int32) (r0 : Int32) (hg : g_X5_centresOf V_t_s x1 = some r0) : Met l yX5_centresOf wsX5_centresOf rX5_centresOf (PcR D cI cZ cB cJ [(A_t, .inr (5, [.int V_t_thrown, .ref A_t_s, .ref A_t_aside, .ref A_t_snapshot, .int V_t_isKept, .ref A_t_saved, .int V_t_savedMany, .ref A_t_text, .int V_t_length, .ref A_t_counts, .ref A_t_isCut, .ref A_t_strength, .ref A_t_fails, .ref A_t_why, .ref A_t_driver, .ref A_t_place, .ref A_t_isDone, .int V_t_position, .int V_t_isWrong, .long V_t_digested])), (A_t_s, .inl (cI, 77, .inl V_t_s))] [.ref A_t, .int x1]) (vp_Si (fun r' => r' = r0 ∧ True)) 0 0 (fun _ => False) := by
  refine bodyRi (cc := cX5_centresOf) (maxL := 4) (lv := [(0, .ref A_t), (1, .int x1)]) (by decide) rfl (Nat.le_of_ble_eq_true rfl) rfl ?_
  intro p e s m args below meth c Q hx hb hml hown hts hP hK fin ls hl
  replace hown : s.vm.findClass RX5 = some m.cls := hown
  have S : CallFix p m c cX5_centresOf 4 s args wsX5_centresOf RX5 := ⟨hx, hb, hml, hown, hts⟩
  unfold g_X5_centresOf at hg
  refine lv_iconst (v := 0) hx hb dX5_centresOf_0 (by decide) ?_
  refine lv_istore_n (lv' := [(2, .int 0), (0, .ref A_t), (1, .int x1)]) hx hb dX5_centresOf_1 rfl hl (by decide) rfl (fun ls hl => ?_)
  refine lv_iconst (v := 0) hx hb dX5_centresOf_2 (by decide) ?_
  refine lv_istore_n (lv' := [(3, .int 0), (2, .int 0), (0, .ref A_t), (1, .int x1)]) hx hb dX5_centresOf_3 rfl hl (by decide) rfl (fun ls hl => ?_)
  obtain ⟨v4, hL, hg⟩ := bind_ex hg
  have kx : ∀ ls : Array Slot, lv_has ls 4 [(2, .int v4)] → W p l e rX5_centresOf s m args below meth c s.heap [] 0 0 Q (F0 m 36 ls []) := by
    intro ls hl
    refine lv_iload_n hx hb dX5_centresOf_36 rfl (lv_at hl 0 rfl) ?_
    cases hg
    exact fin _ _ dX5_centresOf_37
  have L : ∀ (nf : Nat) (v1 : Int32) (v2 : Int32), ∀ ls : Array Slot, lv_has ls 4 [(3, .int v2), (2, .int v1), (0, .ref A_t), (1, .int x1)] → g_X5_centresOf_L1 V_t_s x1 nf v1 v2 = some v4 → W p l e rX5_centresOf s m args below meth c s.heap [] 0 0 Q (F0 m 4 ls []) := by
    intro nf
    induction nf with
    | zero =>
      intro v1 v2 ls hl hg
      exact no_some hg
    | succ nf ih =>
      intro v1 v2 ls hl hg
      rw [g_X5_centresOf_L1] at hg
      refine lv_iload_n hx hb dX5_centresOf_4 rfl (lv_at hl 0 rfl) ?_
      refine lv_iconst (v := 4) hx hb dX5_centresOf_5 (by decide) ?_
      refine lv_icmp_ge (tgt := 36) hx hb dX5_centresOf_6 (by decide) (fun hc => ?_) (fun hc => ?_)
      · replace hg := if_yes hg hc
        cases hg
        exact kx _ (lv_sub hl [1] rfl)
      · replace hg := if_no hg hc
        refine lv_iload_n hx hb dX5_centresOf_9 rfl (lv_at hl 1 rfl) ?_
        refine lv_aload_n hx hb dX5_centresOf_10 rfl (lv_at hl 2 rfl) ?_
        refine xget (ci := 5) (C := RX5) (T := TX5) (N := 20) (v := .ref A_t_s) hx hb hts in_X5_centresOf_X5 hown hK hP 0 rfl rfl 1 (by decide) wd_X5_centresOf_1 rfl dX5_centresOf_11 ?_
        refine lv_bipush (v := 10) hx hb dX5_centresOf_14 (by decide) ?_
        refine lv_iload_n hx hb dX5_centresOf_16 rfl (lv_at hl 0 rfl) ?_
        refine lv_iadd hx hb dX5_centresOf_17 ?_
        obtain ⟨v3, hin, hv, hg⟩ := rdA_ex hg
        refine xiald hx hb hK hP 1 rfl hin hv dX5_centresOf_18 ?_
        refine lv_iload_n hx hb dX5_centresOf_19 rfl (lv_at hl 3 rfl) ?_
        refine lv_icmp_ne (tgt := 27) hx hb dX5_centresOf_20 (by decide) (fun hc => ?_) (fun hc => ?_)
        · replace hg := if_no hg hc
          refine lv_iconst (v := 0) hx hb dX5_centresOf_27 (by decide) ?_
          refine lv_iadd hx hb dX5_centresOf_28 ?_
          refine lv_istore_n (lv' := [(2, .int (v1 + 0)), (3, .int v2), (0, .ref A_t), (1, .int x1)]) hx hb dX5_centresOf_29 rfl hl (by decide) rfl (fun ls hl => ?_)
          refine lv_iinc (v := (v2 + 1)) (lv' := [(3, .int (v2 + 1)), (2, .int (v1 + 0)), (0, .ref A_t), (1, .int x1)]) hx hb dX5_centresOf_30 hl (k := 1) rfl rfl (by decide) rfl (fun ls hl => ?_)
          refine lv_goto (tgt := 4) hx hb dX5_centresOf_33 (by decide) ?_
          exact ih _ _ _ (lv_sub hl [0, 1, 2, 3] rfl) hg
        · replace hg := if_yes hg hc
          refine lv_iconst (v := 1) hx hb dX5_centresOf_23 (by decide) ?_
          refine lv_goto (tgt := 28) hx hb dX5_centresOf_24 (by decide) ?_
          refine lv_iadd hx hb dX5_centresOf_28 ?_
          refine lv_istore_n (lv' := [(2, .int (v1 + 1)), (3, .int v2), (0, .ref A_t), (1, .int x1)]) hx hb dX5_centresOf_29 rfl hl (by decide) rfl (fun ls hl => ?_)
          refine lv_iinc (v := (v2 + 1)) (lv' := [(3, .int (v2 + 1)), (2, .int (v1 + 1)), (0, .ref A_t), (1, .int x1)]) hx hb dX5_centresOf_30 hl (k := 1) rfl rfl (by decide) rfl (fun ls hl => ?_)
          refine lv_goto (tgt := 4) hx hb dX5_centresOf_33 (by decide) ?_
          exact ih _ _ _ (lv_sub hl [0, 1, 2, 3] rfl) hg
  exact L FU _ _ _ (lv_sub hl [0, 1, 2, 3] rfl) hL
theorem hd_X5_armiesOf : yX5_armiesOf.cls = RX5 ∧ yX5_armiesOf.cls ≠ "java/lang/invoke/MethodHandle" ∧ yX5_armiesOf.cls ≠ "java/lang/invoke/VarHandle" ∧ (parseMethodDescriptor yX5_armiesOf.desc).map (fun d => d.parameters.length) = some 1 := by decide +kernel
theorem in_X5_armiesOf_X5 : ∀ w ∈ u_ws RX5 TX5 20, w ∈ wsX5_armiesOf := fun _ h => List.mem_cons_of_mem _ (List.mem_append_right _ h)
theorem wd_X5_armiesOf_1 : Cond.fieldLink RX5 7 "FogOrdersModel" "s" "[I" ∈ wsX5_armiesOf := List.mem_of_getElem? (i := 1) rfl
abbrev rX5_armiesOf : Room := { frames := 2, cells := 0, slots := 0, locals := 43 }
set_option maxHeartbeats 4000000 in
set_option maxRecDepth 100000 in
theorem c_X5_armiesOf (l : Launch) (D : va_G) (cI cZ cB cJ : ClassId) (A_t : Nat) (A_t_s : Nat) (A_t_aside : Nat) (A_t_snapshot : Nat) (A_t_saved : Nat) (A_t_text : Nat) (A_t_counts : Nat) (A_t_isCut : Nat) (A_t_strength : Nat) (A_t_fails : Nat) (A_t_why : Nat) (A_t_driver : Nat) (A_t_place : Nat) (A_t_isDone : Nat) (V_t_thrown : Int32) (V_t_isKept : Int32) (V_t_savedMany : Int32) (V_t_length : Int32) (V_t_position : Int32) (V_t_isWrong : Int32) (V_t_digested : Int64) (V_t_s : Nat → Int32) (x1 : Int32) (r0 : Int32) (hg : g_X5_armiesOf V_t_s x1 = some r0) : Met l yX5_armiesOf wsX5_armiesOf rX5_armiesOf (PcR D cI cZ cB cJ [(A_t, .inr (5, [.int V_t_thrown, .ref A_t_s, .ref A_t_aside, .ref A_t_snapshot, .int V_t_isKept, .ref A_t_saved, .int V_t_savedMany, .ref A_t_text, .int V_t_length, .ref A_t_counts, .ref A_t_isCut, .ref A_t_strength, .ref A_t_fails, .ref A_t_why, .ref A_t_driver, .ref A_t_place, .ref A_t_isDone, .int V_t_position, .int V_t_isWrong, .long V_t_digested])), (A_t_s, .inl (cI, 77, .inl V_t_s))] [.ref A_t, .int x1]) (vp_Si (fun r' => r' = r0 ∧ True)) 0 0 (fun _ => False) := by
  refine bodyRi (cc := cX5_armiesOf) (maxL := 4) (lv := [(0, .ref A_t), (1, .int x1)]) (by decide) rfl (Nat.le_of_ble_eq_true rfl) rfl ?_
  intro p e s m args below meth c Q hx hb hml hown hts hP hK fin ls hl
  replace hown : s.vm.findClass RX5 = some m.cls := hown
  have S : CallFix p m c cX5_armiesOf 4 s args wsX5_armiesOf RX5 := ⟨hx, hb, hml, hown, hts⟩
  unfold g_X5_armiesOf at hg
  refine lv_iconst (v := 0) hx hb dX5_armiesOf_0 (by decide) ?_
  refine lv_istore_n (lv' := [(2, .int 0), (0, .ref A_t), (1, .int x1)]) hx hb dX5_armiesOf_1 rfl hl (by decide) rfl (fun ls hl => ?_)
  refine lv_iconst (v := 0) hx hb dX5_armiesOf_2 (by decide) ?_
  refine lv_istore_n (lv' := [(3, .int 0), (2, .int 0), (0, .ref A_t), (1, .int x1)]) hx hb dX5_armiesOf_3 rfl hl (by decide) rfl (fun ls hl => ?_)
  obtain ⟨v5, hL, hg⟩ := bind_ex hg
  have kx : ∀ ls : Array Slot, lv_has ls 4 [(2, .int v5)] → W p l e rX5_armiesOf s m args below meth c s.heap [] 0 0 Q (F0 m 39 ls []) := by
    intro ls hl
    refine lv_iload_n hx hb dX5_armiesOf_39 rfl (lv_at hl 0 rfl) ?_
    cases hg
    exact fin _ _ dX5_armiesOf_40
  have L : ∀ (nf : Nat) (v1 : Int32) (v2 : Int32), ∀ ls : Array Slot, lv_has ls 4 [(3, .int v2), (2, .int v1), (0, .ref A_t), (1, .int x1)] → g_X5_armiesOf_L1 V_t_s x1 nf v1 v2 = some v5 → W p l e rX5_armiesOf s m args below meth c s.heap [] 0 0 Q (F0 m 4 ls []) := by
    intro nf
    induction nf with
    | zero =>
      intro v1 v2 ls hl hg
      exact no_some hg
    | succ nf ih =>
      intro v1 v2 ls hl hg
      rw [g_X5_armiesOf_L1] at hg
      refine lv_iload_n hx hb dX5_armiesOf_4 rfl (lv_at hl 0 rfl) ?_
      refine lv_aload_n hx hb dX5_armiesOf_5 rfl (lv_at hl 2 rfl) ?_
      refine xget (ci := 5) (C := RX5) (T := TX5) (N := 20) (v := .ref A_t_s) hx hb hts in_X5_armiesOf_X5 hown hK hP 0 rfl rfl 1 (by decide) wd_X5_armiesOf_1 rfl dX5_armiesOf_6 ?_
      refine lv_bipush (v := 9) hx hb dX5_armiesOf_9 (by decide) ?_
      obtain ⟨v3, hin, hv, hg⟩ := rdA_ex hg
      refine xiald hx hb hK hP 1 rfl hin hv dX5_armiesOf_11 ?_
      refine lv_icmp_ge (tgt := 39) hx hb dX5_armiesOf_12 (by decide) (fun hc => ?_) (fun hc => ?_)
      · replace hg := if_yes hg hc
        cases hg
        exact kx _ (lv_sub hl [1] rfl)
      · replace hg := if_no hg hc
        refine lv_iload_n hx hb dX5_armiesOf_15 rfl (lv_at hl 1 rfl) ?_
        refine lv_aload_n hx hb dX5_armiesOf_16 rfl (lv_at hl 2 rfl) ?_
        refine lv_iload_n hx hb dX5_armiesOf_17 rfl (lv_at hl 0 rfl) ?_
        refine lv_iconst (v := 0) hx hb dX5_armiesOf_18 (by decide) ?_
        obtain ⟨v4, hq, hg⟩ := bind_ex hg
        refine callRVi (As := [.int v2, .int 0]) (rest := [.int v1]) S hK hP (c_X5_of l D cI cZ cB cJ A_t A_t_s A_t_aside A_t_snapshot A_t_saved A_t_text A_t_counts A_t_isCut A_t_strength A_t_fails A_t_why A_t_driver A_t_place A_t_isDone V_t_thrown V_t_isKept V_t_savedMany V_t_length V_t_position V_t_isWrong V_t_digested V_t_s v2 0 v4 hq) [0, 1] rfl (cwV 2 hts gX5_armiesOf_X5_of rfl rfl rfl hd_X5_of ⟨Nat.le_of_ble_eq_true rfl, Nat.le_of_ble_eq_true rfl⟩) rfl rfl rfl hl.1 rfl (Nat.le_of_ble_eq_true rfl) dX5_armiesOf_19 ⟨Nat.zero_le _, Nat.zero_le _⟩ ?_
        refine lv_iload_n hx hb dX5_armiesOf_22 rfl (lv_at hl 3 rfl) ?_
        refine lv_icmp_ne (tgt := 30) hx hb dX5_armiesOf_23 (by decide) (fun hc => ?_) (fun hc => ?_)
        · replace hg := if_no hg hc
          refine lv_iconst (v := 0) hx hb dX5_armiesOf_30 (by decide) ?_
          refine lv_iadd hx hb dX5_armiesOf_31 ?_
          refine lv_istore_n (lv' := [(2, .int (v1 + 0)), (3, .int v2), (0, .ref A_t), (1, .int x1)]) hx hb dX5_armiesOf_32 rfl hl (by decide) rfl (fun ls hl => ?_)
          refine lv_iinc (v := (v2 + 1)) (lv' := [(3, .int (v2 + 1)), (2, .int (v1 + 0)), (0, .ref A_t), (1, .int x1)]) hx hb dX5_armiesOf_33 hl (k := 1) rfl rfl (by decide) rfl (fun ls hl => ?_)
          refine lv_goto (tgt := 4) hx hb dX5_armiesOf_36 (by decide) ?_
          exact ih _ _ _ (lv_sub hl [0, 1, 2, 3] rfl) hg
        · replace hg := if_yes hg hc
          refine lv_iconst (v := 1) hx hb dX5_armiesOf_26 (by decide) ?_
          refine lv_goto (tgt := 31) hx hb dX5_armiesOf_27 (by decide) ?_
          refine lv_iadd hx hb dX5_armiesOf_31 ?_
          refine lv_istore_n (lv' := [(2, .int (v1 + 1)), (3, .int v2), (0, .ref A_t), (1, .int x1)]) hx hb dX5_armiesOf_32 rfl hl (by decide) rfl (fun ls hl => ?_)
          refine lv_iinc (v := (v2 + 1)) (lv' := [(3, .int (v2 + 1)), (2, .int (v1 + 1)), (0, .ref A_t), (1, .int x1)]) hx hb dX5_armiesOf_33 hl (k := 1) rfl rfl (by decide) rfl (fun ls hl => ?_)
          refine lv_goto (tgt := 4) hx hb dX5_armiesOf_36 (by decide) ?_
          exact ih _ _ _ (lv_sub hl [0, 1, 2, 3] rfl) hg
  exact L FU _ _ _ (lv_sub hl [0, 1, 2, 3] rfl) hL
theorem hd_X5_highestOf : yX5_highestOf.cls = RX5 ∧ yX5_highestOf.cls ≠ "java/lang/invoke/MethodHandle" ∧ yX5_highestOf.cls ≠ "java/lang/invoke/VarHandle" ∧ (parseMethodDescriptor yX5_highestOf.desc).map (fun d => d.parameters.length) = some 1 := by decide +kernel
theorem in_X5_highestOf_X5 : ∀ w ∈ u_ws RX5 TX5 20, w ∈ wsX5_highestOf := fun _ h => List.mem_cons_of_mem _ (List.mem_append_right _ h)
theorem wd_X5_highestOf_1 : Cond.fieldLink RX5 7 "FogOrdersModel" "s" "[I" ∈ wsX5_highestOf := List.mem_of_getElem? (i := 1) rfl
abbrev rX5_highestOf : Room := { frames := 2, cells := 0, slots := 0, locals := 43 }
set_option maxHeartbeats 4000000 in
set_option maxRecDepth 100000 in
theorem c_X5_highestOf (l : Launch) (D : va_G) (cI cZ cB cJ : ClassId) (A_t : Nat) (A_t_s : Nat) (A_t_aside : Nat) (A_t_snapshot : Nat) (A_t_saved : Nat) (A_t_text : Nat) (A_t_counts : Nat) (A_t_isCut : Nat) (A_t_strength : Nat) (A_t_fails : Nat) (A_t_why : Nat) (A_t_driver : Nat) (A_t_place : Nat) (A_t_isDone : Nat) (V_t_thrown : Int32) (V_t_isKept : Int32) (V_t_savedMany : Int32) (V_t_length : Int32) (V_t_position : Int32) (V_t_isWrong : Int32) (V_t_digested : Int64) (V_t_s : Nat → Int32) (x1 : Int32) (r0 : Int32) (hg : g_X5_highestOf V_t_s x1 = some r0) : Met l yX5_highestOf wsX5_highestOf rX5_highestOf (PcR D cI cZ cB cJ [(A_t, .inr (5, [.int V_t_thrown, .ref A_t_s, .ref A_t_aside, .ref A_t_snapshot, .int V_t_isKept, .ref A_t_saved, .int V_t_savedMany, .ref A_t_text, .int V_t_length, .ref A_t_counts, .ref A_t_isCut, .ref A_t_strength, .ref A_t_fails, .ref A_t_why, .ref A_t_driver, .ref A_t_place, .ref A_t_isDone, .int V_t_position, .int V_t_isWrong, .long V_t_digested])), (A_t_s, .inl (cI, 77, .inl V_t_s))] [.ref A_t, .int x1]) (vp_Si (fun r' => r' = r0 ∧ True)) 0 0 (fun _ => False) := by
  refine bodyRi (cc := cX5_highestOf) (maxL := 4) (lv := [(0, .ref A_t), (1, .int x1)]) (by decide) rfl (Nat.le_of_ble_eq_true rfl) rfl ?_
  intro p e s m args below meth c Q hx hb hml hown hts hP hK fin ls hl
  replace hown : s.vm.findClass RX5 = some m.cls := hown
  have S : CallFix p m c cX5_highestOf 4 s args wsX5_highestOf RX5 := ⟨hx, hb, hml, hown, hts⟩
  unfold g_X5_highestOf at hg
  refine lv_iconst (v := (-1)) hx hb dX5_highestOf_0 (by decide) ?_
  refine lv_istore_n (lv' := [(2, .int (-1)), (0, .ref A_t), (1, .int x1)]) hx hb dX5_highestOf_1 rfl hl (by decide) rfl (fun ls hl => ?_)
  refine lv_iconst (v := 0) hx hb dX5_highestOf_2 (by decide) ?_
  refine lv_istore_n (lv' := [(3, .int 0), (2, .int (-1)), (0, .ref A_t), (1, .int x1)]) hx hb dX5_highestOf_3 rfl hl (by decide) rfl (fun ls hl => ?_)
  obtain ⟨v5, hL, hg⟩ := bind_ex hg
  have kx : ∀ ls : Array Slot, lv_has ls 4 [(2, .int v5)] → W p l e rX5_highestOf s m args below meth c s.heap [] 0 0 Q (F0 m 37 ls []) := by
    intro ls hl
    refine lv_iload_n hx hb dX5_highestOf_37 rfl (lv_at hl 0 rfl) ?_
    cases hg
    exact fin _ _ dX5_highestOf_38
  have L : ∀ (nf : Nat) (v1 : Int32) (v2 : Int32), ∀ ls : Array Slot, lv_has ls 4 [(3, .int v2), (2, .int v1), (0, .ref A_t), (1, .int x1)] → g_X5_highestOf_L1 V_t_s x1 nf v1 v2 = some v5 → W p l e rX5_highestOf s m args below meth c s.heap [] 0 0 Q (F0 m 4 ls []) := by
    intro nf
    induction nf with
    | zero =>
      intro v1 v2 ls hl hg
      exact no_some hg
    | succ nf ih =>
      intro v1 v2 ls hl hg
      rw [g_X5_highestOf_L1] at hg
      refine lv_iload_n hx hb dX5_highestOf_4 rfl (lv_at hl 0 rfl) ?_
      refine lv_aload_n hx hb dX5_highestOf_5 rfl (lv_at hl 2 rfl) ?_
      refine xget (ci := 5) (C := RX5) (T := TX5) (N := 20) (v := .ref A_t_s) hx hb hts in_X5_highestOf_X5 hown hK hP 0 rfl rfl 1 (by decide) wd_X5_highestOf_1 rfl dX5_highestOf_6 ?_
      refine lv_bipush (v := 9) hx hb dX5_highestOf_9 (by decide) ?_
      obtain ⟨v3, hin, hv, hg⟩ := rdA_ex hg
      refine xiald hx hb hK hP 1 rfl hin hv dX5_highestOf_11 ?_
      refine lv_icmp_ge (tgt := 37) hx hb dX5_highestOf_12 (by decide) (fun hc => ?_) (fun hc => ?_)
      · replace hg := if_yes hg hc
        cases hg
        exact kx _ (lv_sub hl [1] rfl)
      · replace hg := if_no hg hc
        refine lv_aload_n hx hb dX5_highestOf_15 rfl (lv_at hl 2 rfl) ?_
        refine lv_iload_n hx hb dX5_highestOf_16 rfl (lv_at hl 0 rfl) ?_
        refine lv_iconst (v := 0) hx hb dX5_highestOf_17 (by decide) ?_
        obtain ⟨v4, hq, hg⟩ := bind_ex hg
        refine callRVi (As := [.int v2, .int 0]) (rest := []) S hK hP (c_X5_of l D cI cZ cB cJ A_t A_t_s A_t_aside A_t_snapshot A_t_saved A_t_text A_t_counts A_t_isCut A_t_strength A_t_fails A_t_why A_t_driver A_t_place A_t_isDone V_t_thrown V_t_isKept V_t_savedMany V_t_length V_t_position V_t_isWrong V_t_digested V_t_s v2 0 v4 hq) [0, 1] rfl (cwV 2 hts gX5_highestOf_X5_of rfl rfl rfl hd_X5_of ⟨Nat.le_of_ble_eq_true rfl, Nat.le_of_ble_eq_true rfl⟩) rfl rfl rfl hl.1 rfl (Nat.le_of_ble_eq_true rfl) dX5_highestOf_18 ⟨Nat.zero_le _, Nat.zero_le _⟩ ?_
        refine lv_iload_n hx hb dX5_highestOf_21 rfl (lv_at hl 3 rfl) ?_
        refine lv_icmp_ne (tgt := 29) hx hb dX5_highestOf_22 (by decide) (fun hc => ?_) (fun hc => ?_)
        · replace hg := if_no hg hc
          refine lv_iload_n hx hb dX5_highestOf_29 rfl (lv_at hl 1 rfl) ?_
          refine lv_istore_n (lv' := [(2, .int v1), (3, .int v2), (0, .ref A_t), (1, .int x1)]) hx hb dX5_highestOf_30 rfl hl (by decide) rfl (fun ls hl => ?_)
          refine lv_iinc (v := (v2 + 1)) (lv' := [(3, .int (v2 + 1)), (2, .int v1), (0, .ref A_t), (1, .int x1)]) hx hb dX5_highestOf_31 hl (k := 1) rfl rfl (by decide) rfl (fun ls hl => ?_)
          refine lv_goto (tgt := 4) hx hb dX5_highestOf_34 (by decide) ?_
          exact ih _ _ _ (lv_sub hl [0, 1, 2, 3] rfl) hg
        · replace hg := if_yes hg hc
          refine lv_iload_n hx hb dX5_highestOf_25 rfl (lv_at hl 0 rfl) ?_
          refine lv_goto (tgt := 30) hx hb dX5_highestOf_26 (by decide) ?_
          refine lv_istore_n (lv' := [(2, .int v2), (3, .int v2), (0, .ref A_t), (1, .int x1)]) hx hb dX5_highestOf_30 rfl hl (by decide) rfl (fun ls hl => ?_)
          refine lv_iinc (v := (v2 + 1)) (lv' := [(3, .int (v2 + 1)), (2, .int v2), (0, .ref A_t), (1, .int x1)]) hx hb dX5_highestOf_31 hl (k := 1) rfl rfl (by decide) rfl (fun ls hl => ?_)
          refine lv_goto (tgt := 4) hx hb dX5_highestOf_34 (by decide) ?_
          exact ih _ _ _ (lv_sub hl [0, 1, 2, 3] rfl) hg
  exact L FU _ _ _ (lv_sub hl [0, 1, 2, 3] rfl) hL
theorem hd_X5_sets : yX5_sets.cls = RX5 ∧ yX5_sets.cls ≠ "java/lang/invoke/MethodHandle" ∧ yX5_sets.cls ≠ "java/lang/invoke/VarHandle" ∧ (parseMethodDescriptor yX5_sets.desc).map (fun d => d.parameters.length) = some 2 := by decide +kernel
theorem in_X5_sets_X5 : ∀ w ∈ u_ws RX5 TX5 20, w ∈ wsX5_sets := fun _ h => List.mem_cons_of_mem _ (List.mem_append_right _ h)
theorem wd_X5_sets_1 : Cond.fieldLink RX5 7 "FogOrdersModel" "s" "[I" ∈ wsX5_sets := List.mem_of_getElem? (i := 1) rfl
abbrev rX5_sets : Room := { frames := 2, cells := 0, slots := 0, locals := 45 }
set_option maxHeartbeats 4000000 in
set_option maxRecDepth 100000 in
theorem c_X5_sets (l : Launch) (D : va_G) (cI cZ cB cJ : ClassId) (A_t : Nat) (A_t_s : Nat) (A_t_aside : Nat) (A_t_snapshot : Nat) (A_t_saved : Nat) (A_t_text : Nat) (A_t_counts : Nat) (A_t_isCut : Nat) (A_t_strength : Nat) (A_t_fails : Nat) (A_t_why : Nat) (A_t_driver : Nat) (A_t_place : Nat) (A_t_isDone : Nat) (sz : Nat) (V_t_thrown : Int32) (V_t_isKept : Int32) (V_t_savedMany : Int32) (V_t_length : Int32) (V_t_position : Int32) (V_t_isWrong : Int32) (V_t_digested : Int64) (V_t_s : Nat → Int32) (x1 : Int32) (x2 : Int32) (w1 : Nat → Int32) (hg : g_X5_sets V_t_s x1 x2 = some w1) : Met l yX5_sets wsX5_sets rX5_sets (PcW D cI cZ cB cJ sz [(A_t, .inr (5, [.int V_t_thrown, .ref A_t_s, .ref A_t_aside, .ref A_t_snapshot, .int V_t_isKept, .ref A_t_saved, .int V_t_savedMany, .ref A_t_text, .int V_t_length, .ref A_t_counts, .ref A_t_isCut, .ref A_t_strength, .ref A_t_fails, .ref A_t_why, .ref A_t_driver, .ref A_t_place, .ref A_t_isDone, .int V_t_position, .int V_t_isWrong, .long V_t_digested])), (A_t_s, .inl (cI, 77, .inl V_t_s))] [.ref A_t, .int x1, .int x2]) (QWv D cI cZ cB cJ sz [(A_t, .inr (5, [.int V_t_thrown, .ref A_t_s, .ref A_t_aside, .ref A_t_snapshot, .int V_t_isKept, .ref A_t_saved, .int V_t_savedMany, .ref A_t_text, .int V_t_length, .ref A_t_counts, .ref A_t_isCut, .ref A_t_strength, .ref A_t_fails, .ref A_t_why, .ref A_t_driver, .ref A_t_place, .ref A_t_isDone, .int V_t_position, .int V_t_isWrong, .long V_t_digested])), (A_t_s, .inl (cI, 77, .inl V_t_s))] [(A_t, .inr (5, [.int V_t_thrown, .ref A_t_s, .ref A_t_aside, .ref A_t_snapshot, .int V_t_isKept, .ref A_t_saved, .int V_t_savedMany, .ref A_t_text, .int V_t_length, .ref A_t_counts, .ref A_t_isCut, .ref A_t_strength, .ref A_t_fails, .ref A_t_why, .ref A_t_driver, .ref A_t_place, .ref A_t_isDone, .int V_t_position, .int V_t_isWrong, .long V_t_digested])), (A_t_s, .inl (cI, 77, .inl w1))]) 0 0 (va_A [(A_t, .inr (5, [.int V_t_thrown, .ref A_t_s, .ref A_t_aside, .ref A_t_snapshot, .int V_t_isKept, .ref A_t_saved, .int V_t_savedMany, .ref A_t_text, .int V_t_length, .ref A_t_counts, .ref A_t_isCut, .ref A_t_strength, .ref A_t_fails, .ref A_t_why, .ref A_t_driver, .ref A_t_place, .ref A_t_isDone, .int V_t_position, .int V_t_isWrong, .long V_t_digested])), (A_t_s, .inl (cI, 77, .inl V_t_s))] sz) := by
  refine bodyWv (cc := cX5_sets) (maxL := 4) (lv := [(0, .ref A_t), (1, .int x1), (2, .int x2)]) (by decide) rfl (Nat.le_of_ble_eq_true rfl) rfl ?_
  intro p e s m args below meth c Q hx hb hml hown hts A hP hK hD hA hS fin ls hl
  replace hown : s.vm.findClass RX5 = some m.cls := hown
  have S : CallFix p m c cX5_sets 4 s args wsX5_sets RX5 := ⟨hx, hb, hml, hown, hts⟩
  unfold g_X5_sets at hg
  refine lv_aload_n hx hb dX5_sets_0 rfl (lv_at hl 0 rfl) ?_
  refine xget (ci := 5) (C := RX5) (T := TX5) (N := 20) (v := .ref A_t_s) hx hb hts in_X5_sets_X5 hown hK hP 0 rfl rfl 1 (by decide) wd_X5_sets_1 rfl dX5_sets_1 ?_
  refine lv_bipush (v := 9) hx hb dX5_sets_4 (by decide) ?_
  obtain ⟨v1, hin, hv, hg⟩ := rdA_ex hg
  refine xiald hx hb hK hP 1 rfl hin hv dX5_sets_6 ?_
  refine lv_istore_n (lv' := [(3, .int v1), (0, .ref A_t), (1, .int x1), (2, .int x2)]) hx hb dX5_sets_7 rfl hl (by decide) rfl (fun ls hl => ?_)
  refine lv_aload_n hx hb dX5_sets_8 rfl (lv_at hl 1 rfl) ?_
  refine xget (ci := 5) (C := RX5) (T := TX5) (N := 20) (v := .ref A_t_s) hx hb hts in_X5_sets_X5 hown hK hP 0 rfl rfl 1 (by decide) wd_X5_sets_1 rfl dX5_sets_9 ?_
  refine lv_bipush (v := 9) hx hb dX5_sets_12 (by decide) ?_
  refine lv_dup2_11 hx hb dX5_sets_14 rfl rfl ?_
  obtain ⟨v2, hin, hv, hg⟩ := rdA_ex hg
  refine xiald hx hb hK hP 1 rfl hin hv dX5_sets_15 ?_
  refine lv_iconst (v := 1) hx hb dX5_sets_16 (by decide) ?_
  refine lv_iadd hx hb dX5_sets_17 ?_
  obtain ⟨f3, hin, hv, hg⟩ := wrA_ex hg
  refine xiast (ws2 := [(A_t, .inr (5, [.int V_t_thrown, .ref A_t_s, .ref A_t_aside, .ref A_t_snapshot, .int V_t_isKept, .ref A_t_saved, .int V_t_savedMany, .ref A_t_text, .int V_t_length, .ref A_t_counts, .ref A_t_isCut, .ref A_t_strength, .ref A_t_fails, .ref A_t_why, .ref A_t_driver, .ref A_t_place, .ref A_t_isDone, .int V_t_position, .int V_t_isWrong, .long V_t_digested])), (A_t_s, .inl (cI, 77, .inl f3))]) hx hb hK hP hD hS 1 rfl hin hv rfl dX5_sets_18 (fun H locs hP hD hS => ?_)
  refine lv_aload_n hx hb dX5_sets_19 rfl (lv_at hl 1 rfl) ?_
  refine xget (ci := 5) (C := RX5) (T := TX5) (N := 20) (v := .ref A_t_s) hx hb hts in_X5_sets_X5 hown hK hP 0 rfl rfl 1 (by decide) wd_X5_sets_1 rfl dX5_sets_20 ?_
  refine lv_iload_n hx hb dX5_sets_23 rfl (lv_at hl 0 rfl) ?_
  refine lv_iconst (v := 0) hx hb dX5_sets_24 (by decide) ?_
  obtain ⟨v4, hq, hg⟩ := bind_ex hg
  refine callRSi (As := [.int v1, .int 0]) (rest := [.ref A_t_s]) S hK hP (c_X5_at l D cI cZ cB cJ v1 0 v4 hq) [] rfl (va_cwS 2 hts gX5_sets_X5_at rfl rfl rfl hd_X5_at ⟨Nat.le_of_ble_eq_true rfl, Nat.le_of_ble_eq_true rfl⟩) rfl hl.1 rfl (Nat.le_of_ble_eq_true rfl) dX5_sets_25 ⟨Nat.zero_le _, Nat.zero_le _⟩ ?_
  refine lv_iload_n hx hb dX5_sets_28 rfl (lv_at hl 2 rfl) ?_
  obtain ⟨f5, hin, hv, hg⟩ := wrA_ex hg
  refine xiast (ws2 := [(A_t, .inr (5, [.int V_t_thrown, .ref A_t_s, .ref A_t_aside, .ref A_t_snapshot, .int V_t_isKept, .ref A_t_saved, .int V_t_savedMany, .ref A_t_text, .int V_t_length, .ref A_t_counts, .ref A_t_isCut, .ref A_t_strength, .ref A_t_fails, .ref A_t_why, .ref A_t_driver, .ref A_t_place, .ref A_t_isDone, .int V_t_position, .int V_t_isWrong, .long V_t_digested])), (A_t_s, .inl (cI, 77, .inl f5))]) hx hb hK hP hD hS 1 rfl hin hv rfl dX5_sets_29 (fun H locs hP hD hS => ?_)
  refine lv_aload_n hx hb dX5_sets_30 rfl (lv_at hl 1 rfl) ?_
  refine xget (ci := 5) (C := RX5) (T := TX5) (N := 20) (v := .ref A_t_s) hx hb hts in_X5_sets_X5 hown hK hP 0 rfl rfl 1 (by decide) wd_X5_sets_1 rfl dX5_sets_31 ?_
  refine lv_iload_n hx hb dX5_sets_34 rfl (lv_at hl 0 rfl) ?_
  refine lv_iconst (v := 1) hx hb dX5_sets_35 (by decide) ?_
  obtain ⟨v6, hq, hg⟩ := bind_ex hg
  refine callRSi (As := [.int v1, .int 1]) (rest := [.ref A_t_s]) S hK hP (c_X5_at l D cI cZ cB cJ v1 1 v6 hq) [] rfl (va_cwS 2 hts gX5_sets_X5_at rfl rfl rfl hd_X5_at ⟨Nat.le_of_ble_eq_true rfl, Nat.le_of_ble_eq_true rfl⟩) rfl hl.1 rfl (Nat.le_of_ble_eq_true rfl) dX5_sets_36 ⟨Nat.zero_le _, Nat.zero_le _⟩ ?_
  refine lv_iload_n hx hb dX5_sets_39 rfl (lv_at hl 3 rfl) ?_
  obtain ⟨f7, hin, hv, hg⟩ := wrA_ex hg
  refine xiast (ws2 := [(A_t, .inr (5, [.int V_t_thrown, .ref A_t_s, .ref A_t_aside, .ref A_t_snapshot, .int V_t_isKept, .ref A_t_saved, .int V_t_savedMany, .ref A_t_text, .int V_t_length, .ref A_t_counts, .ref A_t_isCut, .ref A_t_strength, .ref A_t_fails, .ref A_t_why, .ref A_t_driver, .ref A_t_place, .ref A_t_isDone, .int V_t_position, .int V_t_isWrong, .long V_t_digested])), (A_t_s, .inl (cI, 77, .inl f7))]) hx hb hK hP hD hS 1 rfl hin hv rfl dX5_sets_40 (fun H locs hP hD hS => ?_)
  refine lv_aload_n hx hb dX5_sets_41 rfl (lv_at hl 1 rfl) ?_
  refine xget (ci := 5) (C := RX5) (T := TX5) (N := 20) (v := .ref A_t_s) hx hb hts in_X5_sets_X5 hown hK hP 0 rfl rfl 1 (by decide) wd_X5_sets_1 rfl dX5_sets_42 ?_
  refine lv_iload_n hx hb dX5_sets_45 rfl (lv_at hl 0 rfl) ?_
  refine lv_iconst (v := 5) hx hb dX5_sets_46 (by decide) ?_
  obtain ⟨v8, hq, hg⟩ := bind_ex hg
  refine callRSi (As := [.int v1, .int 5]) (rest := [.ref A_t_s]) S hK hP (c_X5_at l D cI cZ cB cJ v1 5 v8 hq) [] rfl (va_cwS 2 hts gX5_sets_X5_at rfl rfl rfl hd_X5_at ⟨Nat.le_of_ble_eq_true rfl, Nat.le_of_ble_eq_true rfl⟩) rfl hl.1 rfl (Nat.le_of_ble_eq_true rfl) dX5_sets_47 ⟨Nat.zero_le _, Nat.zero_le _⟩ ?_
  refine lv_iconst (v := 0) hx hb dX5_sets_50 (by decide) ?_
  obtain ⟨f9, hin, hv, hg⟩ := wrA_ex hg
  refine xiast (ws2 := [(A_t, .inr (5, [.int V_t_thrown, .ref A_t_s, .ref A_t_aside, .ref A_t_snapshot, .int V_t_isKept, .ref A_t_saved, .int V_t_savedMany, .ref A_t_text, .int V_t_length, .ref A_t_counts, .ref A_t_isCut, .ref A_t_strength, .ref A_t_fails, .ref A_t_why, .ref A_t_driver, .ref A_t_place, .ref A_t_isDone, .int V_t_position, .int V_t_isWrong, .long V_t_digested])), (A_t_s, .inl (cI, 77, .inl f9))]) hx hb hK hP hD hS 1 rfl hin hv rfl dX5_sets_51 (fun H locs hP hD hS => ?_)
  refine lv_aload_n hx hb dX5_sets_52 rfl (lv_at hl 1 rfl) ?_
  refine xget (ci := 5) (C := RX5) (T := TX5) (N := 20) (v := .ref A_t_s) hx hb hts in_X5_sets_X5 hown hK hP 0 rfl rfl 1 (by decide) wd_X5_sets_1 rfl dX5_sets_53 ?_
  refine lv_iload_n hx hb dX5_sets_56 rfl (lv_at hl 0 rfl) ?_
  refine lv_bipush (v := 6) hx hb dX5_sets_57 (by decide) ?_
  obtain ⟨v10, hq, hg⟩ := bind_ex hg
  refine callRSi (As := [.int v1, .int 6]) (rest := [.ref A_t_s]) S hK hP (c_X5_at l D cI cZ cB cJ v1 6 v10 hq) [] rfl (va_cwS 2 hts gX5_sets_X5_at rfl rfl rfl hd_X5_at ⟨Nat.le_of_ble_eq_true rfl, Nat.le_of_ble_eq_true rfl⟩) rfl hl.1 rfl (Nat.le_of_ble_eq_true rfl) dX5_sets_59 ⟨Nat.zero_le _, Nat.zero_le _⟩ ?_
  refine lv_iconst (v := 0) hx hb dX5_sets_62 (by decide) ?_
  obtain ⟨f11, hin, hv, hg⟩ := wrA_ex hg
  refine xiast (ws2 := [(A_t, .inr (5, [.int V_t_thrown, .ref A_t_s, .ref A_t_aside, .ref A_t_snapshot, .int V_t_isKept, .ref A_t_saved, .int V_t_savedMany, .ref A_t_text, .int V_t_length, .ref A_t_counts, .ref A_t_isCut, .ref A_t_strength, .ref A_t_fails, .ref A_t_why, .ref A_t_driver, .ref A_t_place, .ref A_t_isDone, .int V_t_position, .int V_t_isWrong, .long V_t_digested])), (A_t_s, .inl (cI, 77, .inl f11))]) hx hb hK hP hD hS 1 rfl hin hv rfl dX5_sets_63 (fun H locs hP hD hS => ?_)
  refine lv_aload_n hx hb dX5_sets_64 rfl (lv_at hl 1 rfl) ?_
  refine lv_iload_n hx hb dX5_sets_65 rfl (lv_at hl 0 rfl) ?_
  refine lv_iconst (v := 0) hx hb dX5_sets_66 (by decide) ?_
  refine lv_iconst (v := (-1)) hx hb dX5_sets_67 (by decide) ?_
  refine lv_iconst (v := (-1)) hx hb dX5_sets_68 (by decide) ?_
  obtain ⟨f12, hq, hg⟩ := bind_ex hg
  refine callWVv (As := [.int v1, .int 0, .int (-1), .int (-1)]) (rest := []) (wr := []) S hK hP hD hS hA (c_X5_lays l D cI cZ cB cJ A_t A_t_s A_t_aside A_t_snapshot A_t_saved A_t_text A_t_counts A_t_isCut A_t_strength A_t_fails A_t_why A_t_driver A_t_place A_t_isDone _ V_t_thrown V_t_isKept V_t_savedMany V_t_length V_t_position V_t_isWrong V_t_digested f11 v1 0 (-1) (-1) f12 hq) [0, 1] [] rfl rfl (by decide +kernel) (by decide +kernel) (by decide +kernel) (cwV 4 hts gX5_sets_X5_lays rfl rfl rfl hd_X5_lays ⟨Nat.le_of_ble_eq_true rfl, Nat.le_of_ble_eq_true rfl⟩) rfl rfl rfl hl.1 rfl (Nat.le_of_ble_eq_true rfl) dX5_sets_69 ⟨Nat.zero_le _, Nat.zero_le _⟩ (fun H locs hP hD hS => ?_)
  replace hP : va_P D vwCl [(A_t, .inr (5, [.int V_t_thrown, .ref A_t_s, .ref A_t_aside, .ref A_t_snapshot, .int V_t_isKept, .ref A_t_saved, .int V_t_savedMany, .ref A_t_text, .int V_t_length, .ref A_t_counts, .ref A_t_isCut, .ref A_t_strength, .ref A_t_fails, .ref A_t_why, .ref A_t_driver, .ref A_t_place, .ref A_t_isDone, .int V_t_position, .int V_t_isWrong, .long V_t_digested])), (A_t_s, .inl (cI, 77, .inl f12))] H := hP
  replace hD : va_D A [(A_t, .inr (5, [.int V_t_thrown, .ref A_t_s, .ref A_t_aside, .ref A_t_snapshot, .int V_t_isKept, .ref A_t_saved, .int V_t_savedMany, .ref A_t_text, .int V_t_length, .ref A_t_counts, .ref A_t_isCut, .ref A_t_strength, .ref A_t_fails, .ref A_t_why, .ref A_t_driver, .ref A_t_place, .ref A_t_isDone, .int V_t_position, .int V_t_isWrong, .long V_t_digested])), (A_t_s, .inl (cI, 77, .inl f12))] := hD
  cases hg
  exact fin _ _ _ _ dX5_sets_72 hP hD hS
theorem hd_X5_builds : yX5_builds.cls = RX5 ∧ yX5_builds.cls ≠ "java/lang/invoke/MethodHandle" ∧ yX5_builds.cls ≠ "java/lang/invoke/VarHandle" ∧ (parseMethodDescriptor yX5_builds.desc).map (fun d => d.parameters.length) = some 1 := by decide +kernel
theorem in_X5_builds_X5 : ∀ w ∈ u_ws RX5 TX5 20, w ∈ wsX5_builds := fun _ h => List.mem_cons_of_mem _ (List.mem_append_right _ h)
theorem wd_X5_builds_1 : Cond.fieldLink RX5 7 "FogOrdersModel" "s" "[I" ∈ wsX5_builds := List.mem_of_getElem? (i := 1) rfl
abbrev rX5_builds : Room := { frames := 3, cells := 0, slots := 0, locals := 68 }
set_option maxHeartbeats 4000000 in
set_option maxRecDepth 100000 in
theorem c_X5_builds (l : Launch) (D : va_G) (cI cZ cB cJ : ClassId) (A_t : Nat) (A_t_s : Nat) (A_t_aside : Nat) (A_t_snapshot : Nat) (A_t_saved : Nat) (A_t_text : Nat) (A_t_counts : Nat) (A_t_isCut : Nat) (A_t_strength : Nat) (A_t_fails : Nat) (A_t_why : Nat) (A_t_driver : Nat) (A_t_place : Nat) (A_t_isDone : Nat) (sz : Nat) (V_t_thrown : Int32) (V_t_isKept : Int32) (V_t_savedMany : Int32) (V_t_length : Int32) (V_t_position : Int32) (V_t_isWrong : Int32) (V_t_digested : Int64) (V_t_s : Nat → Int32) (x1 : Int32) (w1 : Nat → Int32) (hg : g_X5_builds V_t_s x1 = some w1) : Met l yX5_builds wsX5_builds rX5_builds (PcW D cI cZ cB cJ sz [(A_t, .inr (5, [.int V_t_thrown, .ref A_t_s, .ref A_t_aside, .ref A_t_snapshot, .int V_t_isKept, .ref A_t_saved, .int V_t_savedMany, .ref A_t_text, .int V_t_length, .ref A_t_counts, .ref A_t_isCut, .ref A_t_strength, .ref A_t_fails, .ref A_t_why, .ref A_t_driver, .ref A_t_place, .ref A_t_isDone, .int V_t_position, .int V_t_isWrong, .long V_t_digested])), (A_t_s, .inl (cI, 77, .inl V_t_s))] [.ref A_t, .int x1]) (QWv D cI cZ cB cJ sz [(A_t, .inr (5, [.int V_t_thrown, .ref A_t_s, .ref A_t_aside, .ref A_t_snapshot, .int V_t_isKept, .ref A_t_saved, .int V_t_savedMany, .ref A_t_text, .int V_t_length, .ref A_t_counts, .ref A_t_isCut, .ref A_t_strength, .ref A_t_fails, .ref A_t_why, .ref A_t_driver, .ref A_t_place, .ref A_t_isDone, .int V_t_position, .int V_t_isWrong, .long V_t_digested])), (A_t_s, .inl (cI, 77, .inl V_t_s))] [(A_t, .inr (5, [.int V_t_thrown, .ref A_t_s, .ref A_t_aside, .ref A_t_snapshot, .int V_t_isKept, .ref A_t_saved, .int V_t_savedMany, .ref A_t_text, .int V_t_length, .ref A_t_counts, .ref A_t_isCut, .ref A_t_strength, .ref A_t_fails, .ref A_t_why, .ref A_t_driver, .ref A_t_place, .ref A_t_isDone, .int V_t_position, .int V_t_isWrong, .long V_t_digested])), (A_t_s, .inl (cI, 77, .inl w1))]) 0 0 (va_A [(A_t, .inr (5, [.int V_t_thrown, .ref A_t_s, .ref A_t_aside, .ref A_t_snapshot, .int V_t_isKept, .ref A_t_saved, .int V_t_savedMany, .ref A_t_text, .int V_t_length, .ref A_t_counts, .ref A_t_isCut, .ref A_t_strength, .ref A_t_fails, .ref A_t_why, .ref A_t_driver, .ref A_t_place, .ref A_t_isDone, .int V_t_position, .int V_t_isWrong, .long V_t_digested])), (A_t_s, .inl (cI, 77, .inl V_t_s))] sz) := by
  refine bodyWv (cc := cX5_builds) (maxL := 4) (lv := [(0, .ref A_t), (1, .int x1)]) (by decide) rfl (Nat.le_of_ble_eq_true rfl) rfl ?_
  intro p e s m args below meth c Q hx hb hml hown hts A hP hK hD hA hS fin ls hl
  replace hown : s.vm.findClass RX5 = some m.cls := hown
  have S : CallFix p m c cX5_builds 4 s args wsX5_builds RX5 := ⟨hx, hb, hml, hown, hts⟩
  unfold g_X5_builds at hg
  refine lv_iconst (v := (-1)) hx hb dX5_builds_0 (by decide) ?_
  refine lv_istore_n (lv' := [(2, .int (-1)), (0, .ref A_t), (1, .int x1)]) hx hb dX5_builds_1 rfl hl (by decide) rfl (fun ls hl => ?_)
  refine lv_iconst (v := 3) hx hb dX5_builds_2 (by decide) ?_
  refine lv_istore_n (lv' := [(3, .int 3), (2, .int (-1)), (0, .ref A_t), (1, .int x1)]) hx hb dX5_builds_3 rfl hl (by decide) rfl (fun ls hl => ?_)
  obtain ⟨v5, hL, hg⟩ := bind_ex hg
  have kx : ∀ (H : Heap) (locs : List Loc), va_P D vwCl [(A_t, .inr (5, [.int V_t_thrown, .ref A_t_s, .ref A_t_aside, .ref A_t_snapshot, .int V_t_isKept, .ref A_t_saved, .int V_t_savedMany, .ref A_t_text, .int V_t_length, .ref A_t_counts, .ref A_t_isCut, .ref A_t_strength, .ref A_t_fails, .ref A_t_why, .ref A_t_driver, .ref A_t_place, .ref A_t_isDone, .int V_t_position, .int V_t_isWrong, .long V_t_digested])), (A_t_s, .inl (cI, 77, .inl V_t_s))] H → va_D A [(A_t, .inr (5, [.int V_t_thrown, .ref A_t_s, .ref A_t_aside, .ref A_t_snapshot, .int V_t_isKept, .ref A_t_saved, .int V_t_savedMany, .ref A_t_text, .int V_t_length, .ref A_t_counts, .ref A_t_isCut, .ref A_t_strength, .ref A_t_fails, .ref A_t_why, .ref A_t_driver, .ref A_t_place, .ref A_t_isDone, .int V_t_position, .int V_t_isWrong, .long V_t_digested])), (A_t_s, .inl (cI, 77, .inl V_t_s))] → va_S A s.heap H locs → ∀ ls : Array Slot, lv_has ls 4 [(2, .int v5), (0, .ref A_t), (1, .int x1)] → W p l e rX5_builds s m args below meth c H locs 0 0 Q (F0 m 46 ls []) := by
    intro H locs hP hD hS ls hl
    refine lv_iload_n hx hb dX5_builds_46 rfl (lv_at hl 0 rfl) ?_
    refine lv_iconst (v := (-1)) hx hb dX5_builds_47 (by decide) ?_
    refine lv_icmp_eq (tgt := 80) hx hb dX5_builds_48 (by decide) (fun hc => ?_) (fun hc => ?_)
    · replace hg := if_yes hg hc
      cases hg
      exact fin _ _ _ _ dX5_builds_80 hP hD hS
    · replace hg := if_no hg hc
      refine lv_aload_n hx hb dX5_builds_51 rfl (lv_at hl 1 rfl) ?_
      refine xget (ci := 5) (C := RX5) (T := TX5) (N := 20) (v := .ref A_t_s) hx hb hts in_X5_builds_X5 hown hK hP 0 rfl rfl 1 (by decide) wd_X5_builds_1 rfl dX5_builds_52 ?_
      refine lv_bipush (v := 9) hx hb dX5_builds_55 (by decide) ?_
      obtain ⟨v6, hin, hv, hg⟩ := rdA_ex hg
      refine xiald hx hb hK hP 1 rfl hin hv dX5_builds_57 ?_
      refine lv_bipush (v := 9) hx hb dX5_builds_58 (by decide) ?_
      refine lv_icmp_ge (tgt := 80) hx hb dX5_builds_60 (by decide) (fun hc => ?_) (fun hc => ?_)
      · replace hg := if_yes hg hc
        cases hg
        exact fin _ _ _ _ dX5_builds_80 hP hD hS
      · replace hg := if_no hg hc
        refine lv_aload_n hx hb dX5_builds_63 rfl (lv_at hl 1 rfl) ?_
        refine lv_iload_n hx hb dX5_builds_64 rfl (lv_at hl 2 rfl) ?_
        refine lv_iload_n hx hb dX5_builds_65 rfl (lv_at hl 0 rfl) ?_
        obtain ⟨f7, hq, hg⟩ := bind_ex hg
        refine callWVv (As := [.int x1, .int v5]) (rest := []) (wr := []) S hK hP hD hS hA (c_X5_sets l D cI cZ cB cJ A_t A_t_s A_t_aside A_t_snapshot A_t_saved A_t_text A_t_counts A_t_isCut A_t_strength A_t_fails A_t_why A_t_driver A_t_place A_t_isDone _ V_t_thrown V_t_isKept V_t_savedMany V_t_length V_t_position V_t_isWrong V_t_digested V_t_s x1 v5 f7 hq) [0, 1] [] rfl rfl (by decide +kernel) (by decide +kernel) (by decide +kernel) (cwV 2 hts gX5_builds_X5_sets rfl rfl rfl hd_X5_sets ⟨Nat.le_of_ble_eq_true rfl, Nat.le_of_ble_eq_true rfl⟩) rfl rfl rfl hl.1 rfl (Nat.le_of_ble_eq_true rfl) dX5_builds_66 ⟨Nat.zero_le _, Nat.zero_le _⟩ (fun H locs hP hD hS => ?_)
        replace hP : va_P D vwCl [(A_t, .inr (5, [.int V_t_thrown, .ref A_t_s, .ref A_t_aside, .ref A_t_snapshot, .int V_t_isKept, .ref A_t_saved, .int V_t_savedMany, .ref A_t_text, .int V_t_length, .ref A_t_counts, .ref A_t_isCut, .ref A_t_strength, .ref A_t_fails, .ref A_t_why, .ref A_t_driver, .ref A_t_place, .ref A_t_isDone, .int V_t_position, .int V_t_isWrong, .long V_t_digested])), (A_t_s, .inl (cI, 77, .inl f7))] H := hP
        replace hD : va_D A [(A_t, .inr (5, [.int V_t_thrown, .ref A_t_s, .ref A_t_aside, .ref A_t_snapshot, .int V_t_isKept, .ref A_t_saved, .int V_t_savedMany, .ref A_t_text, .int V_t_length, .ref A_t_counts, .ref A_t_isCut, .ref A_t_strength, .ref A_t_fails, .ref A_t_why, .ref A_t_driver, .ref A_t_place, .ref A_t_isDone, .int V_t_position, .int V_t_isWrong, .long V_t_digested])), (A_t_s, .inl (cI, 77, .inl f7))] := hD
        refine lv_aload_n hx hb dX5_builds_69 rfl (lv_at hl 1 rfl) ?_
        refine xget (ci := 5) (C := RX5) (T := TX5) (N := 20) (v := .ref A_t_s) hx hb hts in_X5_builds_X5 hown hK hP 0 rfl rfl 1 (by decide) wd_X5_builds_1 rfl dX5_builds_70 ?_
        refine lv_bipush (v := 7) hx hb dX5_builds_73 (by decide) ?_
        refine lv_dup2_11 hx hb dX5_builds_75 rfl rfl ?_
        obtain ⟨v8, hin, hv, hg⟩ := rdA_ex hg
        refine xiald hx hb hK hP 1 rfl hin hv dX5_builds_76 ?_
        refine lv_iconst (v := 1) hx hb dX5_builds_77 (by decide) ?_
        refine lv_iadd hx hb dX5_builds_78 ?_
        obtain ⟨f9, hin, hv, hg⟩ := wrA_ex hg
        refine xiast (ws2 := [(A_t, .inr (5, [.int V_t_thrown, .ref A_t_s, .ref A_t_aside, .ref A_t_snapshot, .int V_t_isKept, .ref A_t_saved, .int V_t_savedMany, .ref A_t_text, .int V_t_length, .ref A_t_counts, .ref A_t_isCut, .ref A_t_strength, .ref A_t_fails, .ref A_t_why, .ref A_t_driver, .ref A_t_place, .ref A_t_isDone, .int V_t_position, .int V_t_isWrong, .long V_t_digested])), (A_t_s, .inl (cI, 77, .inl f9))]) hx hb hK hP hD hS 1 rfl hin hv rfl dX5_builds_79 (fun H locs hP hD hS => ?_)
        cases hg
        exact fin _ _ _ _ dX5_builds_80 hP hD hS
  have L : ∀ (nf : Nat) (v1 : Int32) (v2 : Int32), ∀ (H : Heap) (locs : List Loc), va_P D vwCl [(A_t, .inr (5, [.int V_t_thrown, .ref A_t_s, .ref A_t_aside, .ref A_t_snapshot, .int V_t_isKept, .ref A_t_saved, .int V_t_savedMany, .ref A_t_text, .int V_t_length, .ref A_t_counts, .ref A_t_isCut, .ref A_t_strength, .ref A_t_fails, .ref A_t_why, .ref A_t_driver, .ref A_t_place, .ref A_t_isDone, .int V_t_position, .int V_t_isWrong, .long V_t_digested])), (A_t_s, .inl (cI, 77, .inl V_t_s))] H → va_D A [(A_t, .inr (5, [.int V_t_thrown, .ref A_t_s, .ref A_t_aside, .ref A_t_snapshot, .int V_t_isKept, .ref A_t_saved, .int V_t_savedMany, .ref A_t_text, .int V_t_length, .ref A_t_counts, .ref A_t_isCut, .ref A_t_strength, .ref A_t_fails, .ref A_t_why, .ref A_t_driver, .ref A_t_place, .ref A_t_isDone, .int V_t_position, .int V_t_isWrong, .long V_t_digested])), (A_t_s, .inl (cI, 77, .inl V_t_s))] → va_S A s.heap H locs → ∀ ls : Array Slot, lv_has ls 4 [(3, .int v2), (2, .int v1), (0, .ref A_t), (1, .int x1)] → g_X5_builds_L1 V_t_s x1 nf v1 v2 = some v5 → W p l e rX5_builds s m args below meth c H locs 0 0 Q (F0 m 4 ls []) := by
    intro nf
    induction nf with
    | zero =>
      intro v1 v2 H locs hP hD hS ls hl hg
      exact no_some hg
    | succ nf ih =>
      intro v1 v2 H locs hP hD hS ls hl hg
      rw [g_X5_builds_L1] at hg
      refine lv_iload_n hx hb dX5_builds_4 rfl (lv_at hl 0 rfl) ?_
      refine lv_if_lt (tgt := 46) hx hb dX5_builds_5 (by decide) (fun hc => ?_) (fun hc => ?_)
      · replace hg := if_yes hg hc
        cases hg
        exact kx _ _ hP hD hS _ (lv_sub hl [1, 2, 3] rfl)
      · replace hg := if_no hg hc
        refine lv_aload_n hx hb dX5_builds_8 rfl (lv_at hl 2 rfl) ?_
        refine xget (ci := 5) (C := RX5) (T := TX5) (N := 20) (v := .ref A_t_s) hx hb hts in_X5_builds_X5 hown hK hP 0 rfl rfl 1 (by decide) wd_X5_builds_1 rfl dX5_builds_9 ?_
        refine lv_bipush (v := 10) hx hb dX5_builds_12 (by decide) ?_
        refine lv_iload_n hx hb dX5_builds_14 rfl (lv_at hl 0 rfl) ?_
        refine lv_iadd hx hb dX5_builds_15 ?_
        obtain ⟨v3, hin, hv, hg⟩ := rdA_ex hg
        refine xiald hx hb hK hP 1 rfl hin hv dX5_builds_16 ?_
        refine lv_iload_n hx hb dX5_builds_17 rfl (lv_at hl 3 rfl) ?_
        refine lv_icmp_ne (tgt := 38) hx hb dX5_builds_18 (by decide) (fun hc => ?_) (fun hc => ?_)
        · replace hg := if_no hg hc
          refine lv_iload_n hx hb dX5_builds_38 rfl (lv_at hl 1 rfl) ?_
          refine lv_istore_n (lv' := [(2, .int v1), (3, .int v2), (0, .ref A_t), (1, .int x1)]) hx hb dX5_builds_39 rfl hl (by decide) rfl (fun ls hl => ?_)
          refine lv_iinc (v := (v2 + (-1))) (lv' := [(3, .int (v2 + (-1))), (2, .int v1), (0, .ref A_t), (1, .int x1)]) hx hb dX5_builds_40 hl (k := 1) rfl rfl (by decide) rfl (fun ls hl => ?_)
          refine lv_goto (tgt := 4) hx hb dX5_builds_43 (by decide) ?_
          exact ih _ _ _ _ hP hD hS _ (lv_sub hl [0, 1, 2, 3] rfl) hg
        · replace hg := if_yes hg hc
          refine lv_aload_n hx hb dX5_builds_21 rfl (lv_at hl 2 rfl) ?_
          refine lv_iconst (v := 3) hx hb dX5_builds_22 (by decide) ?_
          refine lv_iload_n hx hb dX5_builds_23 rfl (lv_at hl 0 rfl) ?_
          refine lv_imul hx hb dX5_builds_24 ?_
          obtain ⟨v4, hq, hg⟩ := bind_ex hg
          refine callRVi (As := [.int (3 * v2)]) (rest := []) S hK hP (c_X5_armyOn l D cI cZ cB cJ A_t A_t_s A_t_aside A_t_snapshot A_t_saved A_t_text A_t_counts A_t_isCut A_t_strength A_t_fails A_t_why A_t_driver A_t_place A_t_isDone V_t_thrown V_t_isKept V_t_savedMany V_t_length V_t_position V_t_isWrong V_t_digested V_t_s (3 * v2) v4 hq) [0, 1] rfl (cwV 1 hts gX5_builds_X5_armyOn rfl rfl rfl hd_X5_armyOn ⟨Nat.le_of_ble_eq_true rfl, Nat.le_of_ble_eq_true rfl⟩) rfl rfl rfl hl.1 rfl (Nat.le_of_ble_eq_true rfl) dX5_builds_25 ⟨Nat.zero_le _, Nat.zero_le _⟩ ?_
          refine lv_iconst (v := (-1)) hx hb dX5_builds_28 (by decide) ?_
          refine lv_icmp_ne (tgt := 38) hx hb dX5_builds_29 (by decide) (fun hc => ?_) (fun hc => ?_)
          · replace hg := if_no hg hc
            refine lv_iload_n hx hb dX5_builds_38 rfl (lv_at hl 1 rfl) ?_
            refine lv_istore_n (lv' := [(2, .int v1), (3, .int v2), (0, .ref A_t), (1, .int x1)]) hx hb dX5_builds_39 rfl hl (by decide) rfl (fun ls hl => ?_)
            refine lv_iinc (v := (v2 + (-1))) (lv' := [(3, .int (v2 + (-1))), (2, .int v1), (0, .ref A_t), (1, .int x1)]) hx hb dX5_builds_40 hl (k := 1) rfl rfl (by decide) rfl (fun ls hl => ?_)
            refine lv_goto (tgt := 4) hx hb dX5_builds_43 (by decide) ?_
            exact ih _ _ _ _ hP hD hS _ (lv_sub hl [0, 1, 2, 3] rfl) hg
          · replace hg := if_yes hg hc
            refine lv_iconst (v := 3) hx hb dX5_builds_32 (by decide) ?_
            refine lv_iload_n hx hb dX5_builds_33 rfl (lv_at hl 0 rfl) ?_
            refine lv_imul hx hb dX5_builds_34 ?_
            refine lv_goto (tgt := 39) hx hb dX5_builds_35 (by decide) ?_
            refine lv_istore_n (lv' := [(2, .int (3 * v2)), (3, .int v2), (0, .ref A_t), (1, .int x1)]) hx hb dX5_builds_39 rfl hl (by decide) rfl (fun ls hl => ?_)
            refine lv_iinc (v := (v2 + (-1))) (lv' := [(3, .int (v2 + (-1))), (2, .int (3 * v2)), (0, .ref A_t), (1, .int x1)]) hx hb dX5_builds_40 hl (k := 1) rfl rfl (by decide) rfl (fun ls hl => ?_)
            refine lv_goto (tgt := 4) hx hb dX5_builds_43 (by decide) ?_
            exact ih _ _ _ _ hP hD hS _ (lv_sub hl [0, 1, 2, 3] rfl) hg
  exact L FU _ _ _ _ hP hD hS _ (lv_sub hl [0, 1, 2, 3] rfl) hL
theorem hd_X5_endsYear : yX5_endsYear.cls = RX5 ∧ yX5_endsYear.cls ≠ "java/lang/invoke/MethodHandle" ∧ yX5_endsYear.cls ≠ "java/lang/invoke/VarHandle" ∧ (parseMethodDescriptor yX5_endsYear.desc).map (fun d => d.parameters.length) = some 0 := by decide +kernel
theorem in_X5_endsYear_X5 : ∀ w ∈ u_ws RX5 TX5 20, w ∈ wsX5_endsYear := fun _ h => List.mem_cons_of_mem _ (List.mem_append_right _ h)
theorem wd_X5_endsYear_1 : Cond.fieldLink RX5 7 "FogOrdersModel" "s" "[I" ∈ wsX5_endsYear := List.mem_of_getElem? (i := 1) rfl
abbrev rX5_endsYear : Room := { frames := 4, cells := 0, slots := 0, locals := 91 }
set_option maxHeartbeats 4000000 in
set_option maxRecDepth 100000 in
theorem c_X5_endsYear (l : Launch) (D : va_G) (cI cZ cB cJ : ClassId) (A_t : Nat) (A_t_s : Nat) (A_t_aside : Nat) (A_t_snapshot : Nat) (A_t_saved : Nat) (A_t_text : Nat) (A_t_counts : Nat) (A_t_isCut : Nat) (A_t_strength : Nat) (A_t_fails : Nat) (A_t_why : Nat) (A_t_driver : Nat) (A_t_place : Nat) (A_t_isDone : Nat) (sz : Nat) (V_t_thrown : Int32) (V_t_isKept : Int32) (V_t_savedMany : Int32) (V_t_length : Int32) (V_t_position : Int32) (V_t_isWrong : Int32) (V_t_digested : Int64) (V_t_s : Nat → Int32) (w1 : Nat → Int32) (hg : g_X5_endsYear V_t_s = some w1) : Met l yX5_endsYear wsX5_endsYear rX5_endsYear (PcW D cI cZ cB cJ sz [(A_t, .inr (5, [.int V_t_thrown, .ref A_t_s, .ref A_t_aside, .ref A_t_snapshot, .int V_t_isKept, .ref A_t_saved, .int V_t_savedMany, .ref A_t_text, .int V_t_length, .ref A_t_counts, .ref A_t_isCut, .ref A_t_strength, .ref A_t_fails, .ref A_t_why, .ref A_t_driver, .ref A_t_place, .ref A_t_isDone, .int V_t_position, .int V_t_isWrong, .long V_t_digested])), (A_t_s, .inl (cI, 77, .inl V_t_s))] [.ref A_t]) (QWv D cI cZ cB cJ sz [(A_t, .inr (5, [.int V_t_thrown, .ref A_t_s, .ref A_t_aside, .ref A_t_snapshot, .int V_t_isKept, .ref A_t_saved, .int V_t_savedMany, .ref A_t_text, .int V_t_length, .ref A_t_counts, .ref A_t_isCut, .ref A_t_strength, .ref A_t_fails, .ref A_t_why, .ref A_t_driver, .ref A_t_place, .ref A_t_isDone, .int V_t_position, .int V_t_isWrong, .long V_t_digested])), (A_t_s, .inl (cI, 77, .inl V_t_s))] [(A_t, .inr (5, [.int V_t_thrown, .ref A_t_s, .ref A_t_aside, .ref A_t_snapshot, .int V_t_isKept, .ref A_t_saved, .int V_t_savedMany, .ref A_t_text, .int V_t_length, .ref A_t_counts, .ref A_t_isCut, .ref A_t_strength, .ref A_t_fails, .ref A_t_why, .ref A_t_driver, .ref A_t_place, .ref A_t_isDone, .int V_t_position, .int V_t_isWrong, .long V_t_digested])), (A_t_s, .inl (cI, 77, .inl w1))]) 0 0 (va_A [(A_t, .inr (5, [.int V_t_thrown, .ref A_t_s, .ref A_t_aside, .ref A_t_snapshot, .int V_t_isKept, .ref A_t_saved, .int V_t_savedMany, .ref A_t_text, .int V_t_length, .ref A_t_counts, .ref A_t_isCut, .ref A_t_strength, .ref A_t_fails, .ref A_t_why, .ref A_t_driver, .ref A_t_place, .ref A_t_isDone, .int V_t_position, .int V_t_isWrong, .long V_t_digested])), (A_t_s, .inl (cI, 77, .inl V_t_s))] sz) := by
  refine bodyWv (cc := cX5_endsYear) (maxL := 3) (lv := [(0, .ref A_t)]) (by decide) rfl (Nat.le_of_ble_eq_true rfl) rfl ?_
  intro p e s m args below meth c Q hx hb hml hown hts A hP hK hD hA hS fin ls hl
  replace hown : s.vm.findClass RX5 = some m.cls := hown
  have S : CallFix p m c cX5_endsYear 3 s args wsX5_endsYear RX5 := ⟨hx, hb, hml, hown, hts⟩
  unfold g_X5_endsYear at hg
  refine lv_aload_n hx hb dX5_endsYear_0 rfl (lv_at hl 0 rfl) ?_
  obtain ⟨f1, hq, hg⟩ := bind_ex hg
  refine callWVv (As := []) (rest := []) (wr := []) S hK hP hD hS hA (c_X5_belongs l D cI cZ cB cJ A_t A_t_s A_t_aside A_t_snapshot A_t_saved A_t_text A_t_counts A_t_isCut A_t_strength A_t_fails A_t_why A_t_driver A_t_place A_t_isDone _ V_t_thrown V_t_isKept V_t_savedMany V_t_length V_t_position V_t_isWrong V_t_digested V_t_s f1 hq) [0, 1] [] rfl rfl (by decide +kernel) (by decide +kernel) (by decide +kernel) (cwV 0 hts gX5_endsYear_X5_belongs rfl rfl rfl hd_X5_belongs ⟨Nat.le_of_ble_eq_true rfl, Nat.le_of_ble_eq_true rfl⟩) rfl rfl rfl hl.1 rfl (Nat.le_of_ble_eq_true rfl) dX5_endsYear_1 ⟨Nat.zero_le _, Nat.zero_le _⟩ (fun H locs hP hD hS => ?_)
  replace hP : va_P D vwCl [(A_t, .inr (5, [.int V_t_thrown, .ref A_t_s, .ref A_t_aside, .ref A_t_snapshot, .int V_t_isKept, .ref A_t_saved, .int V_t_savedMany, .ref A_t_text, .int V_t_length, .ref A_t_counts, .ref A_t_isCut, .ref A_t_strength, .ref A_t_fails, .ref A_t_why, .ref A_t_driver, .ref A_t_place, .ref A_t_isDone, .int V_t_position, .int V_t_isWrong, .long V_t_digested])), (A_t_s, .inl (cI, 77, .inl f1))] H := hP
  replace hD : va_D A [(A_t, .inr (5, [.int V_t_thrown, .ref A_t_s, .ref A_t_aside, .ref A_t_snapshot, .int V_t_isKept, .ref A_t_saved, .int V_t_savedMany, .ref A_t_text, .int V_t_length, .ref A_t_counts, .ref A_t_isCut, .ref A_t_strength, .ref A_t_fails, .ref A_t_why, .ref A_t_driver, .ref A_t_place, .ref A_t_isDone, .int V_t_position, .int V_t_isWrong, .long V_t_digested])), (A_t_s, .inl (cI, 77, .inl f1))] := hD
  refine lv_iconst (v := 0) hx hb dX5_endsYear_4 (by decide) ?_
  refine lv_istore_n (lv' := [(1, .int 0), (0, .ref A_t)]) hx hb dX5_endsYear_5 rfl hl (by decide) rfl (fun ls hl => ?_)
  obtain ⟨f24, hL, hg⟩ := bind_ex hg
  have kx : ∀ (H : Heap) (locs : List Loc), va_P D vwCl [(A_t, .inr (5, [.int V_t_thrown, .ref A_t_s, .ref A_t_aside, .ref A_t_snapshot, .int V_t_isKept, .ref A_t_saved, .int V_t_savedMany, .ref A_t_text, .int V_t_length, .ref A_t_counts, .ref A_t_isCut, .ref A_t_strength, .ref A_t_fails, .ref A_t_why, .ref A_t_driver, .ref A_t_place, .ref A_t_isDone, .int V_t_position, .int V_t_isWrong, .long V_t_digested])), (A_t_s, .inl (cI, 77, .inl f24))] H → va_D A [(A_t, .inr (5, [.int V_t_thrown, .ref A_t_s, .ref A_t_aside, .ref A_t_snapshot, .int V_t_isKept, .ref A_t_saved, .int V_t_savedMany, .ref A_t_text, .int V_t_length, .ref A_t_counts, .ref A_t_isCut, .ref A_t_strength, .ref A_t_fails, .ref A_t_why, .ref A_t_driver, .ref A_t_place, .ref A_t_isDone, .int V_t_position, .int V_t_isWrong, .long V_t_digested])), (A_t_s, .inl (cI, 77, .inl f24))] → va_S A s.heap H locs → ∀ ls : Array Slot, lv_has ls 3 [(0, .ref A_t)] → W p l e rX5_endsYear s m args below meth c H locs 0 0 Q (F0 m 83 ls []) := by
    intro H locs hP hD hS ls hl
    refine lv_aload_n hx hb dX5_endsYear_83 rfl (lv_at hl 0 rfl) ?_
    refine xget (ci := 5) (C := RX5) (T := TX5) (N := 20) (v := .ref A_t_s) hx hb hts in_X5_endsYear_X5 hown hK hP 0 rfl rfl 1 (by decide) wd_X5_endsYear_1 rfl dX5_endsYear_84 ?_
    refine lv_iconst (v := 0) hx hb dX5_endsYear_87 (by decide) ?_
    refine lv_dup2_11 hx hb dX5_endsYear_88 rfl rfl ?_
    obtain ⟨v25, hin, hv, hg⟩ := rdA_ex hg
    refine xiald hx hb hK hP 1 rfl hin hv dX5_endsYear_89 ?_
    refine lv_iconst (v := 1) hx hb dX5_endsYear_90 (by decide) ?_
    refine lv_iadd hx hb dX5_endsYear_91 ?_
    obtain ⟨f26, hin, hv, hg⟩ := wrA_ex hg
    refine xiast (ws2 := [(A_t, .inr (5, [.int V_t_thrown, .ref A_t_s, .ref A_t_aside, .ref A_t_snapshot, .int V_t_isKept, .ref A_t_saved, .int V_t_savedMany, .ref A_t_text, .int V_t_length, .ref A_t_counts, .ref A_t_isCut, .ref A_t_strength, .ref A_t_fails, .ref A_t_why, .ref A_t_driver, .ref A_t_place, .ref A_t_isDone, .int V_t_position, .int V_t_isWrong, .long V_t_digested])), (A_t_s, .inl (cI, 77, .inl f26))]) hx hb hK hP hD hS 1 rfl hin hv rfl dX5_endsYear_92 (fun H locs hP hD hS => ?_)
    cases hg
    exact fin _ _ _ _ dX5_endsYear_93 hP hD hS
  have L : ∀ (nf : Nat) (v2 : Int32) (f3 : Nat → Int32), ∀ (H : Heap) (locs : List Loc), va_P D vwCl [(A_t, .inr (5, [.int V_t_thrown, .ref A_t_s, .ref A_t_aside, .ref A_t_snapshot, .int V_t_isKept, .ref A_t_saved, .int V_t_savedMany, .ref A_t_text, .int V_t_length, .ref A_t_counts, .ref A_t_isCut, .ref A_t_strength, .ref A_t_fails, .ref A_t_why, .ref A_t_driver, .ref A_t_place, .ref A_t_isDone, .int V_t_position, .int V_t_isWrong, .long V_t_digested])), (A_t_s, .inl (cI, 77, .inl f3))] H → va_D A [(A_t, .inr (5, [.int V_t_thrown, .ref A_t_s, .ref A_t_aside, .ref A_t_snapshot, .int V_t_isKept, .ref A_t_saved, .int V_t_savedMany, .ref A_t_text, .int V_t_length, .ref A_t_counts, .ref A_t_isCut, .ref A_t_strength, .ref A_t_fails, .ref A_t_why, .ref A_t_driver, .ref A_t_place, .ref A_t_isDone, .int V_t_position, .int V_t_isWrong, .long V_t_digested])), (A_t_s, .inl (cI, 77, .inl f3))] → va_S A s.heap H locs → ∀ ls : Array Slot, lv_has ls 3 [(1, .int v2), (0, .ref A_t)] → g_X5_endsYear_L1 nf v2 f3 = some f24 → W p l e rX5_endsYear s m args below meth c H locs 0 0 Q (F0 m 6 ls []) := by
    intro nf
    induction nf with
    | zero =>
      intro v2 f3 H locs hP hD hS ls hl hg
      exact no_some hg
    | succ nf ih =>
      intro v2 f3 H locs hP hD hS ls hl hg
      rw [g_X5_endsYear_L1] at hg
      refine lv_iload_n hx hb dX5_endsYear_6 rfl (lv_at hl 0 rfl) ?_
      refine lv_iconst (v := 3) hx hb dX5_endsYear_7 (by decide) ?_
      refine lv_icmp_ge (tgt := 83) hx hb dX5_endsYear_8 (by decide) (fun hc => ?_) (fun hc => ?_)
      · replace hg := if_yes hg hc
        cases hg
        exact kx _ _ hP hD hS _ (lv_sub hl [1] rfl)
      · replace hg := if_no hg hc
        refine lv_aload_n hx hb dX5_endsYear_11 rfl (lv_at hl 1 rfl) ?_
        refine lv_iload_n hx hb dX5_endsYear_12 rfl (lv_at hl 0 rfl) ?_
        obtain ⟨v4, hq, hg⟩ := bind_ex hg
        refine callRVi (As := [.int v2]) (rest := []) S hK hP (c_X5_armiesOf l D cI cZ cB cJ A_t A_t_s A_t_aside A_t_snapshot A_t_saved A_t_text A_t_counts A_t_isCut A_t_strength A_t_fails A_t_why A_t_driver A_t_place A_t_isDone V_t_thrown V_t_isKept V_t_savedMany V_t_length V_t_position V_t_isWrong V_t_digested f3 v2 v4 hq) [0, 1] rfl (cwV 1 hts gX5_endsYear_X5_armiesOf rfl rfl rfl hd_X5_armiesOf ⟨Nat.le_of_ble_eq_true rfl, Nat.le_of_ble_eq_true rfl⟩) rfl rfl rfl hl.1 rfl (Nat.le_of_ble_eq_true rfl) dX5_endsYear_13 ⟨Nat.zero_le _, Nat.zero_le _⟩ ?_
        refine lv_aload_n hx hb dX5_endsYear_16 rfl (lv_at hl 1 rfl) ?_
        refine lv_iload_n hx hb dX5_endsYear_17 rfl (lv_at hl 0 rfl) ?_
        obtain ⟨v5, hq, hg⟩ := bind_ex hg
        refine callRVi (As := [.int v2]) (rest := [.int v4]) S hK hP (c_X5_centresOf l D cI cZ cB cJ A_t A_t_s A_t_aside A_t_snapshot A_t_saved A_t_text A_t_counts A_t_isCut A_t_strength A_t_fails A_t_why A_t_driver A_t_place A_t_isDone V_t_thrown V_t_isKept V_t_savedMany V_t_length V_t_position V_t_isWrong V_t_digested f3 v2 v5 hq) [0, 1] rfl (cwV 1 hts gX5_endsYear_X5_centresOf rfl rfl rfl hd_X5_centresOf ⟨Nat.le_of_ble_eq_true rfl, Nat.le_of_ble_eq_true rfl⟩) rfl rfl rfl hl.1 rfl (Nat.le_of_ble_eq_true rfl) dX5_endsYear_18 ⟨Nat.zero_le _, Nat.zero_le _⟩ ?_
        refine lv_icmp_ge (tgt := 28) hx hb dX5_endsYear_21 (by decide) (fun hc => ?_) (fun hc => ?_)
        · replace hg := if_yes hg hc
          refine lv_iconst (v := 0) hx hb dX5_endsYear_28 (by decide) ?_
          refine lv_istore_n (lv' := [(2, .int 0), (1, .int v2), (0, .ref A_t)]) hx hb dX5_endsYear_29 rfl hl (by decide) rfl (fun ls hl => ?_)
          obtain ⟨f13, hL, hg⟩ := bind_ex hg
          have kx : ∀ (H : Heap) (locs : List Loc), va_P D vwCl [(A_t, .inr (5, [.int V_t_thrown, .ref A_t_s, .ref A_t_aside, .ref A_t_snapshot, .int V_t_isKept, .ref A_t_saved, .int V_t_savedMany, .ref A_t_text, .int V_t_length, .ref A_t_counts, .ref A_t_isCut, .ref A_t_strength, .ref A_t_fails, .ref A_t_why, .ref A_t_driver, .ref A_t_place, .ref A_t_isDone, .int V_t_position, .int V_t_isWrong, .long V_t_digested])), (A_t_s, .inl (cI, 77, .inl f13))] H → va_D A [(A_t, .inr (5, [.int V_t_thrown, .ref A_t_s, .ref A_t_aside, .ref A_t_snapshot, .int V_t_isKept, .ref A_t_saved, .int V_t_savedMany, .ref A_t_text, .int V_t_length, .ref A_t_counts, .ref A_t_isCut, .ref A_t_strength, .ref A_t_fails, .ref A_t_why, .ref A_t_driver, .ref A_t_place, .ref A_t_isDone, .int V_t_position, .int V_t_isWrong, .long V_t_digested])), (A_t_s, .inl (cI, 77, .inl f13))] → va_S A s.heap H locs → ∀ ls : Array Slot, lv_has ls 3 [(2, .int 0), (1, .int v2), (0, .ref A_t)] → W p l e rX5_endsYear s m args below meth c H locs 0 0 Q (F0 m 68 ls []) := by
            intro H locs hP hD hS ls hl
            refine lv_iload_n hx hb dX5_endsYear_68 rfl (lv_at hl 0 rfl) ?_
            refine lv_if_eq (tgt := 77) hx hb dX5_endsYear_69 (by decide) (fun hc => ?_) (fun hc => ?_)
            · replace hg := if_yes hg hc
              refine lv_iinc (v := (v2 + 1)) (lv' := [(1, .int (v2 + 1)), (2, .int 0), (0, .ref A_t)]) hx hb dX5_endsYear_77 hl (k := 1) rfl rfl (by decide) rfl (fun ls hl => ?_)
              refine lv_goto (tgt := 6) hx hb dX5_endsYear_80 (by decide) ?_
              exact ih _ _ _ _ hP hD hS _ (lv_sub hl [0, 2] rfl) hg
            · replace hg := if_no hg hc
              refine lv_aload_n hx hb dX5_endsYear_72 rfl (lv_at hl 2 rfl) ?_
              refine lv_iload_n hx hb dX5_endsYear_73 rfl (lv_at hl 1 rfl) ?_
              obtain ⟨f14, hq, hg⟩ := bind_ex hg
              refine callWVv (As := [.int v2]) (rest := []) (wr := []) S hK hP hD hS hA (c_X5_builds l D cI cZ cB cJ A_t A_t_s A_t_aside A_t_snapshot A_t_saved A_t_text A_t_counts A_t_isCut A_t_strength A_t_fails A_t_why A_t_driver A_t_place A_t_isDone _ V_t_thrown V_t_isKept V_t_savedMany V_t_length V_t_position V_t_isWrong V_t_digested f13 v2 f14 hq) [0, 1] [] rfl rfl (by decide +kernel) (by decide +kernel) (by decide +kernel) (cwV 1 hts gX5_endsYear_X5_builds rfl rfl rfl hd_X5_builds ⟨Nat.le_of_ble_eq_true rfl, Nat.le_of_ble_eq_true rfl⟩) rfl rfl rfl hl.1 rfl (Nat.le_of_ble_eq_true rfl) dX5_endsYear_74 ⟨Nat.zero_le _, Nat.zero_le _⟩ (fun H locs hP hD hS => ?_)
              replace hP : va_P D vwCl [(A_t, .inr (5, [.int V_t_thrown, .ref A_t_s, .ref A_t_aside, .ref A_t_snapshot, .int V_t_isKept, .ref A_t_saved, .int V_t_savedMany, .ref A_t_text, .int V_t_length, .ref A_t_counts, .ref A_t_isCut, .ref A_t_strength, .ref A_t_fails, .ref A_t_why, .ref A_t_driver, .ref A_t_place, .ref A_t_isDone, .int V_t_position, .int V_t_isWrong, .long V_t_digested])), (A_t_s, .inl (cI, 77, .inl f14))] H := hP
              replace hD : va_D A [(A_t, .inr (5, [.int V_t_thrown, .ref A_t_s, .ref A_t_aside, .ref A_t_snapshot, .int V_t_isKept, .ref A_t_saved, .int V_t_savedMany, .ref A_t_text, .int V_t_length, .ref A_t_counts, .ref A_t_isCut, .ref A_t_strength, .ref A_t_fails, .ref A_t_why, .ref A_t_driver, .ref A_t_place, .ref A_t_isDone, .int V_t_position, .int V_t_isWrong, .long V_t_digested])), (A_t_s, .inl (cI, 77, .inl f14))] := hD
              refine lv_iinc (v := (v2 + 1)) (lv' := [(1, .int (v2 + 1)), (2, .int 0), (0, .ref A_t)]) hx hb dX5_endsYear_77 hl (k := 1) rfl rfl (by decide) rfl (fun ls hl => ?_)
              refine lv_goto (tgt := 6) hx hb dX5_endsYear_80 (by decide) ?_
              exact ih _ _ _ _ hP hD hS _ (lv_sub hl [0, 2] rfl) hg
          have L : ∀ (nf : Nat) (f6 : Nat → Int32), ∀ (H : Heap) (locs : List Loc), va_P D vwCl [(A_t, .inr (5, [.int V_t_thrown, .ref A_t_s, .ref A_t_aside, .ref A_t_snapshot, .int V_t_isKept, .ref A_t_saved, .int V_t_savedMany, .ref A_t_text, .int V_t_length, .ref A_t_counts, .ref A_t_isCut, .ref A_t_strength, .ref A_t_fails, .ref A_t_why, .ref A_t_driver, .ref A_t_place, .ref A_t_isDone, .int V_t_position, .int V_t_isWrong, .long V_t_digested])), (A_t_s, .inl (cI, 77, .inl f6))] H → va_D A [(A_t, .inr (5, [.int V_t_thrown, .ref A_t_s, .ref A_t_aside, .ref A_t_snapshot, .int V_t_isKept, .ref A_t_saved, .int V_t_savedMany, .ref A_t_text, .int V_t_length, .ref A_t_counts, .ref A_t_isCut, .ref A_t_strength, .ref A_t_fails, .ref A_t_why, .ref A_t_driver, .ref A_t_place, .ref A_t_isDone, .int V_t_position, .int V_t_isWrong, .long V_t_digested])), (A_t_s, .inl (cI, 77, .inl f6))] → va_S A s.heap H locs → ∀ ls : Array Slot, lv_has ls 3 [(2, .int 0), (1, .int v2), (0, .ref A_t)] → g_X5_endsYear_L2 v2 nf f6 = some f13 → W p l e rX5_endsYear s m args below meth c H locs 0 0 Q (F0 m 30 ls []) := by
            intro nf
            induction nf with
            | zero =>
              intro f6 H locs hP hD hS ls hl hg
              exact no_some hg
            | succ nf ih =>
              intro f6 H locs hP hD hS ls hl hg
              rw [g_X5_endsYear_L2] at hg
              refine lv_aload_n hx hb dX5_endsYear_30 rfl (lv_at hl 2 rfl) ?_
              refine lv_iload_n hx hb dX5_endsYear_31 rfl (lv_at hl 1 rfl) ?_
              obtain ⟨v7, hq, hg⟩ := bind_ex hg
              refine callRVi (As := [.int v2]) (rest := []) S hK hP (c_X5_armiesOf l D cI cZ cB cJ A_t A_t_s A_t_aside A_t_snapshot A_t_saved A_t_text A_t_counts A_t_isCut A_t_strength A_t_fails A_t_why A_t_driver A_t_place A_t_isDone V_t_thrown V_t_isKept V_t_savedMany V_t_length V_t_position V_t_isWrong V_t_digested f6 v2 v7 hq) [0, 1] rfl (cwV 1 hts gX5_endsYear_X5_armiesOf rfl rfl rfl hd_X5_armiesOf ⟨Nat.le_of_ble_eq_true rfl, Nat.le_of_ble_eq_true rfl⟩) rfl rfl rfl hl.1 rfl (Nat.le_of_ble_eq_true rfl) dX5_endsYear_32 ⟨Nat.zero_le _, Nat.zero_le _⟩ ?_
              refine lv_aload_n hx hb dX5_endsYear_35 rfl (lv_at hl 2 rfl) ?_
              refine lv_iload_n hx hb dX5_endsYear_36 rfl (lv_at hl 1 rfl) ?_
              obtain ⟨v8, hq, hg⟩ := bind_ex hg
              refine callRVi (As := [.int v2]) (rest := [.int v7]) S hK hP (c_X5_centresOf l D cI cZ cB cJ A_t A_t_s A_t_aside A_t_snapshot A_t_saved A_t_text A_t_counts A_t_isCut A_t_strength A_t_fails A_t_why A_t_driver A_t_place A_t_isDone V_t_thrown V_t_isKept V_t_savedMany V_t_length V_t_position V_t_isWrong V_t_digested f6 v2 v8 hq) [0, 1] rfl (cwV 1 hts gX5_endsYear_X5_centresOf rfl rfl rfl hd_X5_centresOf ⟨Nat.le_of_ble_eq_true rfl, Nat.le_of_ble_eq_true rfl⟩) rfl rfl rfl hl.1 rfl (Nat.le_of_ble_eq_true rfl) dX5_endsYear_37 ⟨Nat.zero_le _, Nat.zero_le _⟩ ?_
              refine lv_iconst (v := 1) hx hb dX5_endsYear_40 (by decide) ?_
              refine lv_iadd hx hb dX5_endsYear_41 ?_
              refine lv_icmp_le (tgt := 68) hx hb dX5_endsYear_42 (by decide) (fun hc => ?_) (fun hc => ?_)
              · replace hg := if_yes hg hc
                cases hg
                exact kx _ _ hP hD hS _ (lv_sub hl [0, 1, 2] rfl)
              · replace hg := if_no hg hc
                refine lv_aload_n hx hb dX5_endsYear_45 rfl (lv_at hl 2 rfl) ?_
                refine lv_aload_n hx hb dX5_endsYear_46 rfl (lv_at hl 2 rfl) ?_
                refine lv_iload_n hx hb dX5_endsYear_47 rfl (lv_at hl 1 rfl) ?_
                obtain ⟨v9, hq, hg⟩ := bind_ex hg
                refine callRVi (As := [.int v2]) (rest := [.ref A_t]) S hK hP (c_X5_highestOf l D cI cZ cB cJ A_t A_t_s A_t_aside A_t_snapshot A_t_saved A_t_text A_t_counts A_t_isCut A_t_strength A_t_fails A_t_why A_t_driver A_t_place A_t_isDone V_t_thrown V_t_isKept V_t_savedMany V_t_length V_t_position V_t_isWrong V_t_digested f6 v2 v9 hq) [0, 1] rfl (cwV 1 hts gX5_endsYear_X5_highestOf rfl rfl rfl hd_X5_highestOf ⟨Nat.le_of_ble_eq_true rfl, Nat.le_of_ble_eq_true rfl⟩) rfl rfl rfl hl.1 rfl (Nat.le_of_ble_eq_true rfl) dX5_endsYear_48 ⟨Nat.zero_le _, Nat.zero_le _⟩ ?_
                obtain ⟨f10, hq, hg⟩ := bind_ex hg
                refine callWVv (As := [.int v9]) (rest := []) (wr := []) S hK hP hD hS hA (c_X5_goes l D cI cZ cB cJ A_t A_t_s A_t_aside A_t_snapshot A_t_saved A_t_text A_t_counts A_t_isCut A_t_strength A_t_fails A_t_why A_t_driver A_t_place A_t_isDone _ V_t_thrown V_t_isKept V_t_savedMany V_t_length V_t_position V_t_isWrong V_t_digested f6 v9 f10 hq) [0, 1] [] rfl rfl (by decide +kernel) (by decide +kernel) (by decide +kernel) (cwV 1 hts gX5_endsYear_X5_goes rfl rfl rfl hd_X5_goes ⟨Nat.le_of_ble_eq_true rfl, Nat.le_of_ble_eq_true rfl⟩) rfl rfl rfl hl.1 rfl (Nat.le_of_ble_eq_true rfl) dX5_endsYear_51 ⟨Nat.zero_le _, Nat.zero_le _⟩ (fun H locs hP hD hS => ?_)
                replace hP : va_P D vwCl [(A_t, .inr (5, [.int V_t_thrown, .ref A_t_s, .ref A_t_aside, .ref A_t_snapshot, .int V_t_isKept, .ref A_t_saved, .int V_t_savedMany, .ref A_t_text, .int V_t_length, .ref A_t_counts, .ref A_t_isCut, .ref A_t_strength, .ref A_t_fails, .ref A_t_why, .ref A_t_driver, .ref A_t_place, .ref A_t_isDone, .int V_t_position, .int V_t_isWrong, .long V_t_digested])), (A_t_s, .inl (cI, 77, .inl f10))] H := hP
                replace hD : va_D A [(A_t, .inr (5, [.int V_t_thrown, .ref A_t_s, .ref A_t_aside, .ref A_t_snapshot, .int V_t_isKept, .ref A_t_saved, .int V_t_savedMany, .ref A_t_text, .int V_t_length, .ref A_t_counts, .ref A_t_isCut, .ref A_t_strength, .ref A_t_fails, .ref A_t_why, .ref A_t_driver, .ref A_t_place, .ref A_t_isDone, .int V_t_position, .int V_t_isWrong, .long V_t_digested])), (A_t_s, .inl (cI, 77, .inl f10))] := hD
                refine lv_aload_n hx hb dX5_endsYear_54 rfl (lv_at hl 2 rfl) ?_
                refine xget (ci := 5) (C := RX5) (T := TX5) (N := 20) (v := .ref A_t_s) hx hb hts in_X5_endsYear_X5 hown hK hP 0 rfl rfl 1 (by decide) wd_X5_endsYear_1 rfl dX5_endsYear_55 ?_
                refine lv_bipush (v := 8) hx hb dX5_endsYear_58 (by decide) ?_
                refine lv_dup2_11 hx hb dX5_endsYear_60 rfl rfl ?_
                obtain ⟨v11, hin, hv, hg⟩ := rdA_ex hg
                refine xiald hx hb hK hP 1 rfl hin hv dX5_endsYear_61 ?_
                refine lv_iconst (v := 1) hx hb dX5_endsYear_62 (by decide) ?_
                refine lv_iadd hx hb dX5_endsYear_63 ?_
                obtain ⟨f12, hin, hv, hg⟩ := wrA_ex hg
                refine xiast (ws2 := [(A_t, .inr (5, [.int V_t_thrown, .ref A_t_s, .ref A_t_aside, .ref A_t_snapshot, .int V_t_isKept, .ref A_t_saved, .int V_t_savedMany, .ref A_t_text, .int V_t_length, .ref A_t_counts, .ref A_t_isCut, .ref A_t_strength, .ref A_t_fails, .ref A_t_why, .ref A_t_driver, .ref A_t_place, .ref A_t_isDone, .int V_t_position, .int V_t_isWrong, .long V_t_digested])), (A_t_s, .inl (cI, 77, .inl f12))]) hx hb hK hP hD hS 1 rfl hin hv rfl dX5_endsYear_64 (fun H locs hP hD hS => ?_)
                refine lv_goto (tgt := 30) hx hb dX5_endsYear_65 (by decide) ?_
                exact ih _ _ _ hP hD hS _ (lv_sub hl [0, 1, 2] rfl) hg
          exact L FU _ _ _ hP hD hS _ (lv_sub hl [0, 1, 2] rfl) hL
        · replace hg := if_no hg hc
          refine lv_iconst (v := 1) hx hb dX5_endsYear_24 (by decide) ?_
          refine lv_goto (tgt := 29) hx hb dX5_endsYear_25 (by decide) ?_
          refine lv_istore_n (lv' := [(2, .int 1), (1, .int v2), (0, .ref A_t)]) hx hb dX5_endsYear_29 rfl hl (by decide) rfl (fun ls hl => ?_)
          obtain ⟨f22, hL, hg⟩ := bind_ex hg
          have kx : ∀ (H : Heap) (locs : List Loc), va_P D vwCl [(A_t, .inr (5, [.int V_t_thrown, .ref A_t_s, .ref A_t_aside, .ref A_t_snapshot, .int V_t_isKept, .ref A_t_saved, .int V_t_savedMany, .ref A_t_text, .int V_t_length, .ref A_t_counts, .ref A_t_isCut, .ref A_t_strength, .ref A_t_fails, .ref A_t_why, .ref A_t_driver, .ref A_t_place, .ref A_t_isDone, .int V_t_position, .int V_t_isWrong, .long V_t_digested])), (A_t_s, .inl (cI, 77, .inl f22))] H → va_D A [(A_t, .inr (5, [.int V_t_thrown, .ref A_t_s, .ref A_t_aside, .ref A_t_snapshot, .int V_t_isKept, .ref A_t_saved, .int V_t_savedMany, .ref A_t_text, .int V_t_length, .ref A_t_counts, .ref A_t_isCut, .ref A_t_strength, .ref A_t_fails, .ref A_t_why, .ref A_t_driver, .ref A_t_place, .ref A_t_isDone, .int V_t_position, .int V_t_isWrong, .long V_t_digested])), (A_t_s, .inl (cI, 77, .inl f22))] → va_S A s.heap H locs → ∀ ls : Array Slot, lv_has ls 3 [(2, .int 1), (1, .int v2), (0, .ref A_t)] → W p l e rX5_endsYear s m args below meth c H locs 0 0 Q (F0 m 68 ls []) := by
            intro H locs hP hD hS ls hl
            refine lv_iload_n hx hb dX5_endsYear_68 rfl (lv_at hl 0 rfl) ?_
            refine lv_if_eq (tgt := 77) hx hb dX5_endsYear_69 (by decide) (fun hc => ?_) (fun hc => ?_)
            · replace hg := if_yes hg hc
              refine lv_iinc (v := (v2 + 1)) (lv' := [(1, .int (v2 + 1)), (2, .int 1), (0, .ref A_t)]) hx hb dX5_endsYear_77 hl (k := 1) rfl rfl (by decide) rfl (fun ls hl => ?_)
              refine lv_goto (tgt := 6) hx hb dX5_endsYear_80 (by decide) ?_
              exact ih _ _ _ _ hP hD hS _ (lv_sub hl [0, 2] rfl) hg
            · replace hg := if_no hg hc
              refine lv_aload_n hx hb dX5_endsYear_72 rfl (lv_at hl 2 rfl) ?_
              refine lv_iload_n hx hb dX5_endsYear_73 rfl (lv_at hl 1 rfl) ?_
              obtain ⟨f23, hq, hg⟩ := bind_ex hg
              refine callWVv (As := [.int v2]) (rest := []) (wr := []) S hK hP hD hS hA (c_X5_builds l D cI cZ cB cJ A_t A_t_s A_t_aside A_t_snapshot A_t_saved A_t_text A_t_counts A_t_isCut A_t_strength A_t_fails A_t_why A_t_driver A_t_place A_t_isDone _ V_t_thrown V_t_isKept V_t_savedMany V_t_length V_t_position V_t_isWrong V_t_digested f22 v2 f23 hq) [0, 1] [] rfl rfl (by decide +kernel) (by decide +kernel) (by decide +kernel) (cwV 1 hts gX5_endsYear_X5_builds rfl rfl rfl hd_X5_builds ⟨Nat.le_of_ble_eq_true rfl, Nat.le_of_ble_eq_true rfl⟩) rfl rfl rfl hl.1 rfl (Nat.le_of_ble_eq_true rfl) dX5_endsYear_74 ⟨Nat.zero_le _, Nat.zero_le _⟩ (fun H locs hP hD hS => ?_)
              replace hP : va_P D vwCl [(A_t, .inr (5, [.int V_t_thrown, .ref A_t_s, .ref A_t_aside, .ref A_t_snapshot, .int V_t_isKept, .ref A_t_saved, .int V_t_savedMany, .ref A_t_text, .int V_t_length, .ref A_t_counts, .ref A_t_isCut, .ref A_t_strength, .ref A_t_fails, .ref A_t_why, .ref A_t_driver, .ref A_t_place, .ref A_t_isDone, .int V_t_position, .int V_t_isWrong, .long V_t_digested])), (A_t_s, .inl (cI, 77, .inl f23))] H := hP
              replace hD : va_D A [(A_t, .inr (5, [.int V_t_thrown, .ref A_t_s, .ref A_t_aside, .ref A_t_snapshot, .int V_t_isKept, .ref A_t_saved, .int V_t_savedMany, .ref A_t_text, .int V_t_length, .ref A_t_counts, .ref A_t_isCut, .ref A_t_strength, .ref A_t_fails, .ref A_t_why, .ref A_t_driver, .ref A_t_place, .ref A_t_isDone, .int V_t_position, .int V_t_isWrong, .long V_t_digested])), (A_t_s, .inl (cI, 77, .inl f23))] := hD
              refine lv_iinc (v := (v2 + 1)) (lv' := [(1, .int (v2 + 1)), (2, .int 1), (0, .ref A_t)]) hx hb dX5_endsYear_77 hl (k := 1) rfl rfl (by decide) rfl (fun ls hl => ?_)
              refine lv_goto (tgt := 6) hx hb dX5_endsYear_80 (by decide) ?_
              exact ih _ _ _ _ hP hD hS _ (lv_sub hl [0, 2] rfl) hg
          have L : ∀ (nf : Nat) (f15 : Nat → Int32), ∀ (H : Heap) (locs : List Loc), va_P D vwCl [(A_t, .inr (5, [.int V_t_thrown, .ref A_t_s, .ref A_t_aside, .ref A_t_snapshot, .int V_t_isKept, .ref A_t_saved, .int V_t_savedMany, .ref A_t_text, .int V_t_length, .ref A_t_counts, .ref A_t_isCut, .ref A_t_strength, .ref A_t_fails, .ref A_t_why, .ref A_t_driver, .ref A_t_place, .ref A_t_isDone, .int V_t_position, .int V_t_isWrong, .long V_t_digested])), (A_t_s, .inl (cI, 77, .inl f15))] H → va_D A [(A_t, .inr (5, [.int V_t_thrown, .ref A_t_s, .ref A_t_aside, .ref A_t_snapshot, .int V_t_isKept, .ref A_t_saved, .int V_t_savedMany, .ref A_t_text, .int V_t_length, .ref A_t_counts, .ref A_t_isCut, .ref A_t_strength, .ref A_t_fails, .ref A_t_why, .ref A_t_driver, .ref A_t_place, .ref A_t_isDone, .int V_t_position, .int V_t_isWrong, .long V_t_digested])), (A_t_s, .inl (cI, 77, .inl f15))] → va_S A s.heap H locs → ∀ ls : Array Slot, lv_has ls 3 [(2, .int 1), (1, .int v2), (0, .ref A_t)] → g_X5_endsYear_L3 v2 nf f15 = some f22 → W p l e rX5_endsYear s m args below meth c H locs 0 0 Q (F0 m 30 ls []) := by
            intro nf
            induction nf with
            | zero =>
              intro f15 H locs hP hD hS ls hl hg
              exact no_some hg
            | succ nf ih =>
              intro f15 H locs hP hD hS ls hl hg
              rw [g_X5_endsYear_L3] at hg
              refine lv_aload_n hx hb dX5_endsYear_30 rfl (lv_at hl 2 rfl) ?_
              refine lv_iload_n hx hb dX5_endsYear_31 rfl (lv_at hl 1 rfl) ?_
              obtain ⟨v16, hq, hg⟩ := bind_ex hg
              refine callRVi (As := [.int v2]) (rest := []) S hK hP (c_X5_armiesOf l D cI cZ cB cJ A_t A_t_s A_t_aside A_t_snapshot A_t_saved A_t_text A_t_counts A_t_isCut A_t_strength A_t_fails A_t_why A_t_driver A_t_place A_t_isDone V_t_thrown V_t_isKept V_t_savedMany V_t_length V_t_position V_t_isWrong V_t_digested f15 v2 v16 hq) [0, 1] rfl (cwV 1 hts gX5_endsYear_X5_armiesOf rfl rfl rfl hd_X5_armiesOf ⟨Nat.le_of_ble_eq_true rfl, Nat.le_of_ble_eq_true rfl⟩) rfl rfl rfl hl.1 rfl (Nat.le_of_ble_eq_true rfl) dX5_endsYear_32 ⟨Nat.zero_le _, Nat.zero_le _⟩ ?_
              refine lv_aload_n hx hb dX5_endsYear_35 rfl (lv_at hl 2 rfl) ?_
              refine lv_iload_n hx hb dX5_endsYear_36 rfl (lv_at hl 1 rfl) ?_
              obtain ⟨v17, hq, hg⟩ := bind_ex hg
              refine callRVi (As := [.int v2]) (rest := [.int v16]) S hK hP (c_X5_centresOf l D cI cZ cB cJ A_t A_t_s A_t_aside A_t_snapshot A_t_saved A_t_text A_t_counts A_t_isCut A_t_strength A_t_fails A_t_why A_t_driver A_t_place A_t_isDone V_t_thrown V_t_isKept V_t_savedMany V_t_length V_t_position V_t_isWrong V_t_digested f15 v2 v17 hq) [0, 1] rfl (cwV 1 hts gX5_endsYear_X5_centresOf rfl rfl rfl hd_X5_centresOf ⟨Nat.le_of_ble_eq_true rfl, Nat.le_of_ble_eq_true rfl⟩) rfl rfl rfl hl.1 rfl (Nat.le_of_ble_eq_true rfl) dX5_endsYear_37 ⟨Nat.zero_le _, Nat.zero_le _⟩ ?_
              refine lv_iconst (v := 1) hx hb dX5_endsYear_40 (by decide) ?_
              refine lv_iadd hx hb dX5_endsYear_41 ?_
              refine lv_icmp_le (tgt := 68) hx hb dX5_endsYear_42 (by decide) (fun hc => ?_) (fun hc => ?_)
              · replace hg := if_yes hg hc
                cases hg
                exact kx _ _ hP hD hS _ (lv_sub hl [0, 1, 2] rfl)
              · replace hg := if_no hg hc
                refine lv_aload_n hx hb dX5_endsYear_45 rfl (lv_at hl 2 rfl) ?_
                refine lv_aload_n hx hb dX5_endsYear_46 rfl (lv_at hl 2 rfl) ?_
                refine lv_iload_n hx hb dX5_endsYear_47 rfl (lv_at hl 1 rfl) ?_
                obtain ⟨v18, hq, hg⟩ := bind_ex hg
                refine callRVi (As := [.int v2]) (rest := [.ref A_t]) S hK hP (c_X5_highestOf l D cI cZ cB cJ A_t A_t_s A_t_aside A_t_snapshot A_t_saved A_t_text A_t_counts A_t_isCut A_t_strength A_t_fails A_t_why A_t_driver A_t_place A_t_isDone V_t_thrown V_t_isKept V_t_savedMany V_t_length V_t_position V_t_isWrong V_t_digested f15 v2 v18 hq) [0, 1] rfl (cwV 1 hts gX5_endsYear_X5_highestOf rfl rfl rfl hd_X5_highestOf ⟨Nat.le_of_ble_eq_true rfl, Nat.le_of_ble_eq_true rfl⟩) rfl rfl rfl hl.1 rfl (Nat.le_of_ble_eq_true rfl) dX5_endsYear_48 ⟨Nat.zero_le _, Nat.zero_le _⟩ ?_
                obtain ⟨f19, hq, hg⟩ := bind_ex hg
                refine callWVv (As := [.int v18]) (rest := []) (wr := []) S hK hP hD hS hA (c_X5_goes l D cI cZ cB cJ A_t A_t_s A_t_aside A_t_snapshot A_t_saved A_t_text A_t_counts A_t_isCut A_t_strength A_t_fails A_t_why A_t_driver A_t_place A_t_isDone _ V_t_thrown V_t_isKept V_t_savedMany V_t_length V_t_position V_t_isWrong V_t_digested f15 v18 f19 hq) [0, 1] [] rfl rfl (by decide +kernel) (by decide +kernel) (by decide +kernel) (cwV 1 hts gX5_endsYear_X5_goes rfl rfl rfl hd_X5_goes ⟨Nat.le_of_ble_eq_true rfl, Nat.le_of_ble_eq_true rfl⟩) rfl rfl rfl hl.1 rfl (Nat.le_of_ble_eq_true rfl) dX5_endsYear_51 ⟨Nat.zero_le _, Nat.zero_le _⟩ (fun H locs hP hD hS => ?_)
                replace hP : va_P D vwCl [(A_t, .inr (5, [.int V_t_thrown, .ref A_t_s, .ref A_t_aside, .ref A_t_snapshot, .int V_t_isKept, .ref A_t_saved, .int V_t_savedMany, .ref A_t_text, .int V_t_length, .ref A_t_counts, .ref A_t_isCut, .ref A_t_strength, .ref A_t_fails, .ref A_t_why, .ref A_t_driver, .ref A_t_place, .ref A_t_isDone, .int V_t_position, .int V_t_isWrong, .long V_t_digested])), (A_t_s, .inl (cI, 77, .inl f19))] H := hP
                replace hD : va_D A [(A_t, .inr (5, [.int V_t_thrown, .ref A_t_s, .ref A_t_aside, .ref A_t_snapshot, .int V_t_isKept, .ref A_t_saved, .int V_t_savedMany, .ref A_t_text, .int V_t_length, .ref A_t_counts, .ref A_t_isCut, .ref A_t_strength, .ref A_t_fails, .ref A_t_why, .ref A_t_driver, .ref A_t_place, .ref A_t_isDone, .int V_t_position, .int V_t_isWrong, .long V_t_digested])), (A_t_s, .inl (cI, 77, .inl f19))] := hD
                refine lv_aload_n hx hb dX5_endsYear_54 rfl (lv_at hl 2 rfl) ?_
                refine xget (ci := 5) (C := RX5) (T := TX5) (N := 20) (v := .ref A_t_s) hx hb hts in_X5_endsYear_X5 hown hK hP 0 rfl rfl 1 (by decide) wd_X5_endsYear_1 rfl dX5_endsYear_55 ?_
                refine lv_bipush (v := 8) hx hb dX5_endsYear_58 (by decide) ?_
                refine lv_dup2_11 hx hb dX5_endsYear_60 rfl rfl ?_
                obtain ⟨v20, hin, hv, hg⟩ := rdA_ex hg
                refine xiald hx hb hK hP 1 rfl hin hv dX5_endsYear_61 ?_
                refine lv_iconst (v := 1) hx hb dX5_endsYear_62 (by decide) ?_
                refine lv_iadd hx hb dX5_endsYear_63 ?_
                obtain ⟨f21, hin, hv, hg⟩ := wrA_ex hg
                refine xiast (ws2 := [(A_t, .inr (5, [.int V_t_thrown, .ref A_t_s, .ref A_t_aside, .ref A_t_snapshot, .int V_t_isKept, .ref A_t_saved, .int V_t_savedMany, .ref A_t_text, .int V_t_length, .ref A_t_counts, .ref A_t_isCut, .ref A_t_strength, .ref A_t_fails, .ref A_t_why, .ref A_t_driver, .ref A_t_place, .ref A_t_isDone, .int V_t_position, .int V_t_isWrong, .long V_t_digested])), (A_t_s, .inl (cI, 77, .inl f21))]) hx hb hK hP hD hS 1 rfl hin hv rfl dX5_endsYear_64 (fun H locs hP hD hS => ?_)
                refine lv_goto (tgt := 30) hx hb dX5_endsYear_65 (by decide) ?_
                exact ih _ _ _ hP hD hS _ (lv_sub hl [0, 1, 2] rfl) hg
          exact L FU _ _ _ hP hD hS _ (lv_sub hl [0, 1, 2] rfl) hL
  exact L FU _ _ _ _ hP hD hS _ (lv_sub hl [0, 1] rfl) hL
theorem hd_X5_army : yX5_army.cls = RX5 ∧ yX5_army.cls ≠ "java/lang/invoke/MethodHandle" ∧ yX5_army.cls ≠ "java/lang/invoke/VarHandle" ∧ (parseMethodDescriptor yX5_army.desc).map (fun d => d.parameters.length) = some 2 := by decide +kernel
theorem in_X5_army_X5 : ∀ w ∈ u_ws RX5 TX5 20, w ∈ wsX5_army := fun _ h => List.mem_cons_of_mem _ (List.mem_append_right _ h)
theorem wd_X5_army_1 : Cond.fieldLink RX5 7 "FogOrdersModel" "s" "[I" ∈ wsX5_army := List.mem_of_getElem? (i := 1) rfl
abbrev rX5_army : Room := { frames := 3, cells := 0, slots := 0, locals := 68 }
set_option maxHeartbeats 4000000 in
set_option maxRecDepth 100000 in
theorem c_X5_army (l : Launch) (D : va_G) (cI cZ cB cJ : ClassId) (A_t : Nat) (A_t_s : Nat) (A_t_aside : Nat) (A_t_snapshot : Nat) (A_t_saved : Nat) (A_t_text : Nat) (A_t_counts : Nat) (A_t_isCut : Nat) (A_t_strength : Nat) (A_t_fails : Nat) (A_t_why : Nat) (A_t_driver : Nat) (A_t_place : Nat) (A_t_isDone : Nat) (sz : Nat) (V_t_thrown : Int32) (V_t_isKept : Int32) (V_t_savedMany : Int32) (V_t_length : Int32) (V_t_position : Int32) (V_t_isWrong : Int32) (V_t_digested : Int64) (V_t_s : Nat → Int32) (V_t_saved : Nat → Int32) (x1 : Int32) (x2 : Int32) (r0 : Int32) (w1 : Int32) (w2 : Int32) (w3 : Nat → Int32) (w4 : Nat → Int32) (hg : g_X5_army V_t_thrown V_t_savedMany V_t_s V_t_saved x1 x2 = some (r0, w1, w2, w3, w4)) : Met l yX5_army wsX5_army rX5_army (PcW D cI cZ cB cJ sz [(A_t, .inr (5, [.int V_t_thrown, .ref A_t_s, .ref A_t_aside, .ref A_t_snapshot, .int V_t_isKept, .ref A_t_saved, .int V_t_savedMany, .ref A_t_text, .int V_t_length, .ref A_t_counts, .ref A_t_isCut, .ref A_t_strength, .ref A_t_fails, .ref A_t_why, .ref A_t_driver, .ref A_t_place, .ref A_t_isDone, .int V_t_position, .int V_t_isWrong, .long V_t_digested])), (A_t_s, .inl (cI, 77, .inl V_t_s)), (A_t_saved, .inl (cI, 462, .inl V_t_saved))] [.ref A_t, .int x1, .int x2]) (QWi D cI cZ cB cJ sz [(A_t, .inr (5, [.int V_t_thrown, .ref A_t_s, .ref A_t_aside, .ref A_t_snapshot, .int V_t_isKept, .ref A_t_saved, .int V_t_savedMany, .ref A_t_text, .int V_t_length, .ref A_t_counts, .ref A_t_isCut, .ref A_t_strength, .ref A_t_fails, .ref A_t_why, .ref A_t_driver, .ref A_t_place, .ref A_t_isDone, .int V_t_position, .int V_t_isWrong, .long V_t_digested])), (A_t_s, .inl (cI, 77, .inl V_t_s)), (A_t_saved, .inl (cI, 462, .inl V_t_saved))] [(A_t, .inr (5, [.int w1, .ref A_t_s, .ref A_t_aside, .ref A_t_snapshot, .int V_t_isKept, .ref A_t_saved, .int w2, .ref A_t_text, .int V_t_length, .ref A_t_counts, .ref A_t_isCut, .ref A_t_strength, .ref A_t_fails, .ref A_t_why, .ref A_t_driver, .ref A_t_place, .ref A_t_isDone, .int V_t_position, .int V_t_isWrong, .long V_t_digested])), (A_t_s, .inl (cI, 77, .inl w3)), (A_t_saved, .inl (cI, 462, .inl w4))] r0) 0 0 (va_A [(A_t, .inr (5, [.int V_t_thrown, .ref A_t_s, .ref A_t_aside, .ref A_t_snapshot, .int V_t_isKept, .ref A_t_saved, .int V_t_savedMany, .ref A_t_text, .int V_t_length, .ref A_t_counts, .ref A_t_isCut, .ref A_t_strength, .ref A_t_fails, .ref A_t_why, .ref A_t_driver, .ref A_t_place, .ref A_t_isDone, .int V_t_position, .int V_t_isWrong, .long V_t_digested])), (A_t_s, .inl (cI, 77, .inl V_t_s)), (A_t_saved, .inl (cI, 462, .inl V_t_saved))] sz) := by
  refine bodyWi (cc := cX5_army) (maxL := 4) (lv := [(0, .ref A_t), (1, .int x1), (2, .int x2)]) (by decide) rfl (Nat.le_of_ble_eq_true rfl) rfl ?_
  intro p e s m args below meth c Q hx hb hml hown hts A hP hK hD hA hS fin ls hl
  replace hown : s.vm.findClass RX5 = some m.cls := hown
  have S : CallFix p m c cX5_army 4 s args wsX5_army RX5 := ⟨hx, hb, hml, hown, hts⟩
  unfold g_X5_army at hg
  refine lv_iload_n hx hb dX5_army_0 rfl (lv_at hl 1 rfl) ?_
  obtain ⟨v1, hq, hg⟩ := bind_ex hg
  refine callRSz (As := [.int x1]) (rest := []) S hK hP (c_X5_isSeat l D cI cZ cB cJ x1 v1 hq) [] rfl (va_cwS 1 hts gX5_army_X5_isSeat rfl rfl rfl hd_X5_isSeat ⟨Nat.le_of_ble_eq_true rfl, Nat.le_of_ble_eq_true rfl⟩) rfl hl.1 rfl (Nat.le_of_ble_eq_true rfl) dX5_army_1 ⟨Nat.zero_le _, Nat.zero_le _⟩ (fun hz_v1 => ?_)
  have hJ1 : ∀ (v3 : Int32), bo v3 → ∀ (H : Heap) (locs : List Loc), va_P D vwCl [(A_t, .inr (5, [.int V_t_thrown, .ref A_t_s, .ref A_t_aside, .ref A_t_snapshot, .int V_t_isKept, .ref A_t_saved, .int V_t_savedMany, .ref A_t_text, .int V_t_length, .ref A_t_counts, .ref A_t_isCut, .ref A_t_strength, .ref A_t_fails, .ref A_t_why, .ref A_t_driver, .ref A_t_place, .ref A_t_isDone, .int V_t_position, .int V_t_isWrong, .long V_t_digested])), (A_t_s, .inl (cI, 77, .inl V_t_s)), (A_t_saved, .inl (cI, 462, .inl V_t_saved))] H → va_D A [(A_t, .inr (5, [.int V_t_thrown, .ref A_t_s, .ref A_t_aside, .ref A_t_snapshot, .int V_t_isKept, .ref A_t_saved, .int V_t_savedMany, .ref A_t_text, .int V_t_length, .ref A_t_counts, .ref A_t_isCut, .ref A_t_strength, .ref A_t_fails, .ref A_t_why, .ref A_t_driver, .ref A_t_place, .ref A_t_isDone, .int V_t_position, .int V_t_isWrong, .long V_t_digested])), (A_t_s, .inl (cI, 77, .inl V_t_s)), (A_t_saved, .inl (cI, 462, .inl V_t_saved))] → va_S A s.heap H locs → ∀ ls : Array Slot, lv_has ls 4 [(0, .ref A_t), (1, .int x1), (2, .int x2)] → g_X5_army_J1 V_t_thrown V_t_savedMany V_t_s V_t_saved x1 x2 v3 = some (r0, w1, w2, w3, w4) → W p l e rX5_army s m args below meth c H locs 0 0 Q (F0 m 19 ls [.int v3]) := by
    intro v3 hz_v3 H locs hP hD hS ls hl hg
    unfold g_X5_army_J1 at hg
    refine lv_istore_n (lv' := [(3, .int v3), (0, .ref A_t), (1, .int x1), (2, .int x2)]) hx hb dX5_army_19 rfl hl (by decide) rfl (fun ls hl => ?_)
    refine lv_aload_n hx hb dX5_army_20 rfl (lv_at hl 1 rfl) ?_
    refine lv_iload_n hx hb dX5_army_21 rfl (lv_at hl 0 rfl) ?_
    have hJ2 : ∀ (v6 : Int32), ∀ (H : Heap) (locs : List Loc), va_P D vwCl [(A_t, .inr (5, [.int V_t_thrown, .ref A_t_s, .ref A_t_aside, .ref A_t_snapshot, .int V_t_isKept, .ref A_t_saved, .int V_t_savedMany, .ref A_t_text, .int V_t_length, .ref A_t_counts, .ref A_t_isCut, .ref A_t_strength, .ref A_t_fails, .ref A_t_why, .ref A_t_driver, .ref A_t_place, .ref A_t_isDone, .int V_t_position, .int V_t_isWrong, .long V_t_digested])), (A_t_s, .inl (cI, 77, .inl V_t_s)), (A_t_saved, .inl (cI, 462, .inl V_t_saved))] H → va_D A [(A_t, .inr (5, [.int V_t_thrown, .ref A_t_s, .ref A_t_aside, .ref A_t_snapshot, .int V_t_isKept, .ref A_t_saved, .int V_t_savedMany, .ref A_t_text, .int V_t_length, .ref A_t_counts, .ref A_t_isCut, .ref A_t_strength, .ref A_t_fails, .ref A_t_why, .ref A_t_driver, .ref A_t_place, .ref A_t_isDone, .int V_t_position, .int V_t_isWrong, .long V_t_digested])), (A_t_s, .inl (cI, 77, .inl V_t_s)), (A_t_saved, .inl (cI, 462, .inl V_t_saved))] → va_S A s.heap H locs → ∀ ls : Array Slot, lv_has ls 4 [(0, .ref A_t), (1, .int x1), (2, .int x2)] → g_X5_army_J2 V_t_thrown V_t_savedMany V_t_s V_t_saved x1 x2 v6 = some (r0, w1, w2, w3, w4) → W p l e rX5_army s m args below meth c H locs 0 0 Q (F0 m 55 ls [.int v6, .ref A_t]) := by
      intro v6 H locs hP hD hS ls hl hg
      unfold g_X5_army_J2 at hg
      obtain ⟨v8, v7, hq, hg⟩ := b2_ex hg
      refine callWVz (As := [.int v6]) (rest := []) (wr := [(A_t_s, .inl (cI, 77, .inl V_t_s)), (A_t_saved, .inl (cI, 462, .inl V_t_saved))]) S hK hP hD hS hA (c_X5_holds l D cI cZ cB cJ A_t A_t_s A_t_aside A_t_snapshot A_t_saved A_t_text A_t_counts A_t_isCut A_t_strength A_t_fails A_t_why A_t_driver A_t_place A_t_isDone _ V_t_thrown V_t_isKept V_t_savedMany V_t_length V_t_position V_t_isWrong V_t_digested v6 v8 v7 hq) [0] [1, 2] rfl rfl (by decide +kernel) (by decide +kernel) (by decide +kernel) (cwV 1 hts gX5_army_X5_holds rfl rfl rfl hd_X5_holds ⟨Nat.le_of_ble_eq_true rfl, Nat.le_of_ble_eq_true rfl⟩) rfl rfl rfl hl.1 rfl (Nat.le_of_ble_eq_true rfl) dX5_army_55 ⟨Nat.zero_le _, Nat.zero_le _⟩ (fun hz_v8 H locs hP hD hS => ?_)
      replace hP : va_P D vwCl [(A_t_s, .inl (cI, 77, .inl V_t_s)), (A_t_saved, .inl (cI, 462, .inl V_t_saved)), (A_t, .inr (5, [.int v7, .ref A_t_s, .ref A_t_aside, .ref A_t_snapshot, .int V_t_isKept, .ref A_t_saved, .int V_t_savedMany, .ref A_t_text, .int V_t_length, .ref A_t_counts, .ref A_t_isCut, .ref A_t_strength, .ref A_t_fails, .ref A_t_why, .ref A_t_driver, .ref A_t_place, .ref A_t_isDone, .int V_t_position, .int V_t_isWrong, .long V_t_digested]))] H := hP
      replace hD : va_D A [(A_t_s, .inl (cI, 77, .inl V_t_s)), (A_t_saved, .inl (cI, 462, .inl V_t_saved)), (A_t, .inr (5, [.int v7, .ref A_t_s, .ref A_t_aside, .ref A_t_snapshot, .int V_t_isKept, .ref A_t_saved, .int V_t_savedMany, .ref A_t_text, .int V_t_length, .ref A_t_counts, .ref A_t_isCut, .ref A_t_strength, .ref A_t_fails, .ref A_t_why, .ref A_t_driver, .ref A_t_place, .ref A_t_isDone, .int V_t_position, .int V_t_isWrong, .long V_t_digested]))] := hD
      refine lv_if_ne (tgt := 63) hx hb dX5_army_58 (by decide) (fun hc => ?_) (fun hc => ?_)
      · replace hg := if_no hg hc
        refine lv_aload_n hx hb dX5_army_63 rfl (lv_at hl 0 rfl) ?_
        obtain ⟨v9, f10, hq, hg⟩ := b2_ex hg
        refine callWVv (As := []) (rest := []) (wr := []) S hK hP hD hS hA (c_X5_save l D cI cZ cB cJ A_t A_t_s A_t_aside A_t_snapshot A_t_saved A_t_text A_t_counts A_t_isCut A_t_strength A_t_fails A_t_why A_t_driver A_t_place A_t_isDone _ v7 V_t_isKept V_t_savedMany V_t_length V_t_position V_t_isWrong V_t_digested V_t_s V_t_saved v9 f10 hq) [2, 0, 1] [] rfl rfl (by decide +kernel) (by decide +kernel) (by decide +kernel) (cwV 0 hts gX5_army_X5_save rfl rfl rfl hd_X5_save ⟨Nat.le_of_ble_eq_true rfl, Nat.le_of_ble_eq_true rfl⟩) rfl rfl rfl hl.1 rfl (Nat.le_of_ble_eq_true rfl) dX5_army_64 ⟨Nat.zero_le _, Nat.zero_le _⟩ (fun H locs hP hD hS => ?_)
        replace hP : va_P D vwCl [(A_t, .inr (5, [.int v7, .ref A_t_s, .ref A_t_aside, .ref A_t_snapshot, .int V_t_isKept, .ref A_t_saved, .int v9, .ref A_t_text, .int V_t_length, .ref A_t_counts, .ref A_t_isCut, .ref A_t_strength, .ref A_t_fails, .ref A_t_why, .ref A_t_driver, .ref A_t_place, .ref A_t_isDone, .int V_t_position, .int V_t_isWrong, .long V_t_digested])), (A_t_s, .inl (cI, 77, .inl V_t_s)), (A_t_saved, .inl (cI, 462, .inl f10))] H := hP
        replace hD : va_D A [(A_t, .inr (5, [.int v7, .ref A_t_s, .ref A_t_aside, .ref A_t_snapshot, .int V_t_isKept, .ref A_t_saved, .int v9, .ref A_t_text, .int V_t_length, .ref A_t_counts, .ref A_t_isCut, .ref A_t_strength, .ref A_t_fails, .ref A_t_why, .ref A_t_driver, .ref A_t_place, .ref A_t_isDone, .int V_t_position, .int V_t_isWrong, .long V_t_digested])), (A_t_s, .inl (cI, 77, .inl V_t_s)), (A_t_saved, .inl (cI, 462, .inl f10))] := hD
        refine lv_aload_n hx hb dX5_army_67 rfl (lv_at hl 0 rfl) ?_
        refine lv_iload_n hx hb dX5_army_68 rfl (lv_at hl 1 rfl) ?_
        refine lv_iload_n hx hb dX5_army_69 rfl (lv_at hl 2 rfl) ?_
        obtain ⟨f11, hq, hg⟩ := bind_ex hg
        refine callWVv (As := [.int x1, .int x2]) (rest := []) (wr := [(A_t_saved, .inl (cI, 462, .inl f10))]) S hK hP hD hS hA (c_X5_sets l D cI cZ cB cJ A_t A_t_s A_t_aside A_t_snapshot A_t_saved A_t_text A_t_counts A_t_isCut A_t_strength A_t_fails A_t_why A_t_driver A_t_place A_t_isDone _ v7 V_t_isKept v9 V_t_length V_t_position V_t_isWrong V_t_digested V_t_s x1 x2 f11 hq) [0, 1] [2] rfl rfl (by decide +kernel) (by decide +kernel) (by decide +kernel) (cwV 2 hts gX5_army_X5_sets rfl rfl rfl hd_X5_sets ⟨Nat.le_of_ble_eq_true rfl, Nat.le_of_ble_eq_true rfl⟩) rfl rfl rfl hl.1 rfl (Nat.le_of_ble_eq_true rfl) dX5_army_70 ⟨Nat.zero_le _, Nat.zero_le _⟩ (fun H locs hP hD hS => ?_)
        replace hP : va_P D vwCl [(A_t_saved, .inl (cI, 462, .inl f10)), (A_t, .inr (5, [.int v7, .ref A_t_s, .ref A_t_aside, .ref A_t_snapshot, .int V_t_isKept, .ref A_t_saved, .int v9, .ref A_t_text, .int V_t_length, .ref A_t_counts, .ref A_t_isCut, .ref A_t_strength, .ref A_t_fails, .ref A_t_why, .ref A_t_driver, .ref A_t_place, .ref A_t_isDone, .int V_t_position, .int V_t_isWrong, .long V_t_digested])), (A_t_s, .inl (cI, 77, .inl f11))] H := hP
        replace hD : va_D A [(A_t_saved, .inl (cI, 462, .inl f10)), (A_t, .inr (5, [.int v7, .ref A_t_s, .ref A_t_aside, .ref A_t_snapshot, .int V_t_isKept, .ref A_t_saved, .int v9, .ref A_t_text, .int V_t_length, .ref A_t_counts, .ref A_t_isCut, .ref A_t_strength, .ref A_t_fails, .ref A_t_why, .ref A_t_driver, .ref A_t_place, .ref A_t_isDone, .int V_t_position, .int V_t_isWrong, .long V_t_digested])), (A_t_s, .inl (cI, 77, .inl f11))] := hD
        refine lv_aload_n hx hb dX5_army_73 rfl (lv_at hl 0 rfl) ?_
        refine xget (ci := 5) (C := RX5) (T := TX5) (N := 20) (v := .ref A_t_s) hx hb hts in_X5_army_X5 hown hK hP 1 rfl rfl 1 (by decide) wd_X5_army_1 rfl dX5_army_74 ?_
        refine lv_bipush (v := 9) hx hb dX5_army_77 (by decide) ?_
        obtain ⟨v12, hin, hv, hg⟩ := rdA_ex hg
        refine xiald hx hb hK hP 2 rfl hin hv dX5_army_79 ?_
        refine lv_iconst (v := 1) hx hb dX5_army_80 (by decide) ?_
        refine lv_isub hx hb dX5_army_81 ?_
        cases hg
        exact fin _ _ _ _ dX5_army_82 (hP.sub [1, 2, 0] rfl) (hD.sub [1, 2, 0] (by decide) rfl) hS
      · replace hg := if_yes hg hc
        refine lv_iconst (v := 0) hx hb dX5_army_61 (by decide) ?_
        cases hg
        exact fin _ _ _ _ dX5_army_62 (hP.sub [2, 0, 1] rfl) (hD.sub [2, 0, 1] (by decide) rfl) hS
    refine lv_if_ne (tgt := 29) hx hb dX5_army_22 (by decide) (fun hc => ?_) (fun hc => ?_)
    · replace hg := if_no hg hc
      refine lv_aload_n hx hb dX5_army_29 rfl (lv_at hl 1 rfl) ?_
      refine lv_iload_n hx hb dX5_army_30 rfl (lv_at hl 3 rfl) ?_
      obtain ⟨v4, hq, hg⟩ := bind_ex hg
      refine callRVi (As := [.int x2]) (rest := [.ref A_t]) S hK hP (c_X5_armyOn l D cI cZ cB cJ A_t A_t_s A_t_aside A_t_snapshot A_t_saved A_t_text A_t_counts A_t_isCut A_t_strength A_t_fails A_t_why A_t_driver A_t_place A_t_isDone V_t_thrown V_t_isKept V_t_savedMany V_t_length V_t_position V_t_isWrong V_t_digested V_t_s x2 v4 hq) [0, 1] rfl (cwV 1 hts gX5_army_X5_armyOn rfl rfl rfl hd_X5_armyOn ⟨Nat.le_of_ble_eq_true rfl, Nat.le_of_ble_eq_true rfl⟩) rfl rfl rfl hl.1 rfl (Nat.le_of_ble_eq_true rfl) dX5_army_31 ⟨Nat.zero_le _, Nat.zero_le _⟩ ?_
      refine lv_iconst (v := (-1)) hx hb dX5_army_34 (by decide) ?_
      refine lv_icmp_ne (tgt := 50) hx hb dX5_army_35 (by decide) (fun hc => ?_) (fun hc => ?_)
      · replace hg := if_no hg hc
        refine lv_iconst (v := 2) hx hb dX5_army_50 (by decide) ?_
        refine lv_goto (tgt := 55) hx hb dX5_army_51 (by decide) ?_
        exact hJ2 _ _ _ hP hD hS _ (lv_sub hl [1, 2, 3] rfl) hg
      · replace hg := if_yes hg hc
        refine lv_aload_n hx hb dX5_army_38 rfl (lv_at hl 1 rfl) ?_
        refine xget (ci := 5) (C := RX5) (T := TX5) (N := 20) (v := .ref A_t_s) hx hb hts in_X5_army_X5 hown hK hP 0 rfl rfl 1 (by decide) wd_X5_army_1 rfl dX5_army_39 ?_
        refine lv_bipush (v := 9) hx hb dX5_army_42 (by decide) ?_
        obtain ⟨v5, hin, hv, hg⟩ := rdA_ex hg
        refine xiald hx hb hK hP 1 rfl hin hv dX5_army_44 ?_
        refine lv_bipush (v := 9) hx hb dX5_army_45 (by decide) ?_
        refine lv_icmp_ne (tgt := 54) hx hb dX5_army_47 (by decide) (fun hc => ?_) (fun hc => ?_)
        · replace hg := if_no hg hc
          refine lv_iconst (v := 0) hx hb dX5_army_54 (by decide) ?_
          exact hJ2 _ _ _ hP hD hS _ (lv_sub hl [1, 2, 3] rfl) hg
        · replace hg := if_yes hg hc
          refine lv_iconst (v := 2) hx hb dX5_army_50 (by decide) ?_
          refine lv_goto (tgt := 55) hx hb dX5_army_51 (by decide) ?_
          exact hJ2 _ _ _ hP hD hS _ (lv_sub hl [1, 2, 3] rfl) hg
    · replace hg := if_yes hg hc
      refine lv_iconst (v := 1) hx hb dX5_army_25 (by decide) ?_
      refine lv_goto (tgt := 55) hx hb dX5_army_26 (by decide) ?_
      exact hJ2 _ _ _ hP hD hS _ (lv_sub hl [1, 2, 3] rfl) hg
  refine lv_if_eq (tgt := 18) hx hb dX5_army_4 (by decide) (fun hc => ?_) (fun hc => ?_)
  · replace hg := if_yes hg hc
    refine lv_iconst (v := 0) hx hb dX5_army_18 (by decide) ?_
    exact hJ1 _ bo_0 _ _ hP hD hS _ (lv_sub hl [0, 1, 2] rfl) hg
  · replace hg := if_no hg hc
    refine lv_iload_n hx hb dX5_army_7 rfl (lv_at hl 2 rfl) ?_
    obtain ⟨v2, hq, hg⟩ := bind_ex hg
    refine callRSz (As := [.int x2]) (rest := []) S hK hP (c_X5_isField l D cI cZ cB cJ x2 v2 hq) [] rfl (va_cwS 1 hts gX5_army_X5_isField rfl rfl rfl hd_X5_isField ⟨Nat.le_of_ble_eq_true rfl, Nat.le_of_ble_eq_true rfl⟩) rfl hl.1 rfl (Nat.le_of_ble_eq_true rfl) dX5_army_8 ⟨Nat.zero_le _, Nat.zero_le _⟩ (fun hz_v2 => ?_)
    refine lv_if_eq (tgt := 18) hx hb dX5_army_11 (by decide) (fun hc => ?_) (fun hc => ?_)
    · replace hg := if_yes hg hc
      refine lv_iconst (v := 0) hx hb dX5_army_18 (by decide) ?_
      exact hJ1 _ bo_0 _ _ hP hD hS _ (lv_sub hl [0, 1, 2] rfl) hg
    · replace hg := if_no hg hc
      refine lv_iconst (v := 1) hx hb dX5_army_14 (by decide) ?_
      refine lv_goto (tgt := 19) hx hb dX5_army_15 (by decide) ?_
      exact hJ1 _ bo_1 _ _ hP hD hS _ (lv_sub hl [0, 1, 2] rfl) hg
