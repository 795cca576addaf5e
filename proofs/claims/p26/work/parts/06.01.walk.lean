theorem hd_X1_takeBack : yX1_takeBack.cls = RX1 ∧ yX1_takeBack.cls ≠ "java/lang/invoke/MethodHandle" ∧ yX1_takeBack.cls ≠ "java/lang/invoke/VarHandle" ∧ (parseMethodDescriptor yX1_takeBack.desc).map (fun d => d.parameters.length) = some 1 := by decide +kernel
theorem in_X1_takeBack_X1 : ∀ w ∈ u_ws RX1 TX1 3, w ∈ wsX1_takeBack := fun _ h => List.mem_cons_of_mem _ (List.mem_append_left _ (List.mem_append_right _ h))
theorem wd_X1_takeBack_1 : Cond.fieldLink RX1 21 "FogOrders$History" "saved" "I" ∈ wsX1_takeBack := List.mem_of_getElem? (i := 1) rfl
abbrev rX1_takeBack : Room := { frames := 2, cells := 0, slots := 0, locals := 81 }
set_option maxHeartbeats 4000000 in
set_option maxRecDepth 100000 in
theorem c_X1_takeBack (l : Launch) (D : va_G) (cI cZ cB cJ : ClassId) (A_t : Nat) (A_t_boards : Nat) (A_t_b : Nat → Nat) (A_t_bn : Nat → Nat) (A_t_bo : Nat → Nat) (A_t_bc : Nat → Nat) (A_p1 : Nat) (A_p1_numbers : Nat) (A_p1_owners : Nat) (A_p1_cells : Nat) (sz : Nat) (V_t_oldest : Int32) (V_t_saved : Int32) (V_t_bn : Nat → Nat → Int32) (V_t_bo : Nat → Nat → Int32) (V_t_bc : Nat → Nat → Int32) (V_p1_numbers : Nat → Int32) (V_p1_owners : Nat → Int32) (V_p1_cells : Nat → Int32) (w1 : Int32) (w2 : Nat → Int32) (w3 : Nat → Int32) (w4 : Nat → Int32) (hg : g_X1_takeBack V_t_oldest V_t_saved V_t_bn V_t_bo V_t_bc V_p1_numbers V_p1_owners V_p1_cells = some (w1, w2, w3, w4)) : Met l yX1_takeBack wsX1_takeBack rX1_takeBack (PcW D cI cZ cB cJ sz [(A_t, .inr (1, [.ref A_t_boards, .int V_t_oldest, .int V_t_saved])), (A_t_boards, .inl (cB, 6, .inr (.inr (.inr (.inr (fun j => some (A_t_b j))))))), ((A_t_b 0), .inr (0, [.ref (A_t_bn 0), .ref (A_t_bo 0), .ref (A_t_bc 0)])), ((A_t_b 1), .inr (0, [.ref (A_t_bn 1), .ref (A_t_bo 1), .ref (A_t_bc 1)])), ((A_t_b 2), .inr (0, [.ref (A_t_bn 2), .ref (A_t_bo 2), .ref (A_t_bc 2)])), ((A_t_b 3), .inr (0, [.ref (A_t_bn 3), .ref (A_t_bo 3), .ref (A_t_bc 3)])), ((A_t_b 4), .inr (0, [.ref (A_t_bn 4), .ref (A_t_bo 4), .ref (A_t_bc 4)])), ((A_t_b 5), .inr (0, [.ref (A_t_bn 5), .ref (A_t_bo 5), .ref (A_t_bc 5)])), ((A_t_bn 0), .inl (cI, 10, .inl (V_t_bn 0))), ((A_t_bn 1), .inl (cI, 10, .inl (V_t_bn 1))), ((A_t_bn 2), .inl (cI, 10, .inl (V_t_bn 2))), ((A_t_bn 3), .inl (cI, 10, .inl (V_t_bn 3))), ((A_t_bn 4), .inl (cI, 10, .inl (V_t_bn 4))), ((A_t_bn 5), .inl (cI, 10, .inl (V_t_bn 5))), ((A_t_bo 0), .inl (cI, 12, .inl (V_t_bo 0))), ((A_t_bo 1), .inl (cI, 12, .inl (V_t_bo 1))), ((A_t_bo 2), .inl (cI, 12, .inl (V_t_bo 2))), ((A_t_bo 3), .inl (cI, 12, .inl (V_t_bo 3))), ((A_t_bo 4), .inl (cI, 12, .inl (V_t_bo 4))), ((A_t_bo 5), .inl (cI, 12, .inl (V_t_bo 5))), ((A_t_bc 0), .inl (cI, 63, .inl (V_t_bc 0))), ((A_t_bc 1), .inl (cI, 63, .inl (V_t_bc 1))), ((A_t_bc 2), .inl (cI, 63, .inl (V_t_bc 2))), ((A_t_bc 3), .inl (cI, 63, .inl (V_t_bc 3))), ((A_t_bc 4), .inl (cI, 63, .inl (V_t_bc 4))), ((A_t_bc 5), .inl (cI, 63, .inl (V_t_bc 5))), (A_p1, .inr (0, [.ref A_p1_numbers, .ref A_p1_owners, .ref A_p1_cells])), (A_p1_numbers, .inl (cI, 10, .inl V_p1_numbers)), (A_p1_owners, .inl (cI, 12, .inl V_p1_owners)), (A_p1_cells, .inl (cI, 63, .inl V_p1_cells))] [.ref A_t, .ref A_p1]) (QWv D cI cZ cB cJ sz [(A_t, .inr (1, [.ref A_t_boards, .int V_t_oldest, .int V_t_saved])), (A_t_boards, .inl (cB, 6, .inr (.inr (.inr (.inr (fun j => some (A_t_b j))))))), ((A_t_b 0), .inr (0, [.ref (A_t_bn 0), .ref (A_t_bo 0), .ref (A_t_bc 0)])), ((A_t_b 1), .inr (0, [.ref (A_t_bn 1), .ref (A_t_bo 1), .ref (A_t_bc 1)])), ((A_t_b 2), .inr (0, [.ref (A_t_bn 2), .ref (A_t_bo 2), .ref (A_t_bc 2)])), ((A_t_b 3), .inr (0, [.ref (A_t_bn 3), .ref (A_t_bo 3), .ref (A_t_bc 3)])), ((A_t_b 4), .inr (0, [.ref (A_t_bn 4), .ref (A_t_bo 4), .ref (A_t_bc 4)])), ((A_t_b 5), .inr (0, [.ref (A_t_bn 5), .ref (A_t_bo 5), .ref (A_t_bc 5)])), ((A_t_bn 0), .inl (cI, 10, .inl (V_t_bn 0))), ((A_t_bn 1), .inl (cI, 10, .inl (V_t_bn 1))), ((A_t_bn 2), .inl (cI, 10, .inl (V_t_bn 2))), ((A_t_bn 3), .inl (cI, 10, .inl (V_t_bn 3))), ((A_t_bn 4), .inl (cI, 10, .inl (V_t_bn 4))), ((A_t_bn 5), .inl (cI, 10, .inl (V_t_bn 5))), ((A_t_bo 0), .inl (cI, 12, .inl (V_t_bo 0))), ((A_t_bo 1), .inl (cI, 12, .inl (V_t_bo 1))), ((A_t_bo 2), .inl (cI, 12, .inl (V_t_bo 2))), ((A_t_bo 3), .inl (cI, 12, .inl (V_t_bo 3))), ((A_t_bo 4), .inl (cI, 12, .inl (V_t_bo 4))), ((A_t_bo 5), .inl (cI, 12, .inl (V_t_bo 5))), ((A_t_bc 0), .inl (cI, 63, .inl (V_t_bc 0))), ((A_t_bc 1), .inl (cI, 63, .inl (V_t_bc 1))), ((A_t_bc 2), .inl (cI, 63, .inl (V_t_bc 2))), ((A_t_bc 3), .inl (cI, 63, .inl (V_t_bc 3))), ((A_t_bc 4), .inl (cI, 63, .inl (V_t_bc 4))), ((A_t_bc 5), .inl (cI, 63, .inl (V_t_bc 5))), (A_p1, .inr (0, [.ref A_p1_numbers, .ref A_p1_owners, .ref A_p1_cells])), (A_p1_numbers, .inl (cI, 10, .inl V_p1_numbers)), (A_p1_owners, .inl (cI, 12, .inl V_p1_owners)), (A_p1_cells, .inl (cI, 63, .inl V_p1_cells))] [(A_t, .inr (1, [.ref A_t_boards, .int V_t_oldest, .int w1])), (A_t_boards, .inl (cB, 6, .inr (.inr (.inr (.inr (fun j => some (A_t_b j))))))), ((A_t_b 0), .inr (0, [.ref (A_t_bn 0), .ref (A_t_bo 0), .ref (A_t_bc 0)])), ((A_t_b 1), .inr (0, [.ref (A_t_bn 1), .ref (A_t_bo 1), .ref (A_t_bc 1)])), ((A_t_b 2), .inr (0, [.ref (A_t_bn 2), .ref (A_t_bo 2), .ref (A_t_bc 2)])), ((A_t_b 3), .inr (0, [.ref (A_t_bn 3), .ref (A_t_bo 3), .ref (A_t_bc 3)])), ((A_t_b 4), .inr (0, [.ref (A_t_bn 4), .ref (A_t_bo 4), .ref (A_t_bc 4)])), ((A_t_b 5), .inr (0, [.ref (A_t_bn 5), .ref (A_t_bo 5), .ref (A_t_bc 5)])), ((A_t_bn 0), .inl (cI, 10, .inl (V_t_bn 0))), ((A_t_bn 1), .inl (cI, 10, .inl (V_t_bn 1))), ((A_t_bn 2), .inl (cI, 10, .inl (V_t_bn 2))), ((A_t_bn 3), .inl (cI, 10, .inl (V_t_bn 3))), ((A_t_bn 4), .inl (cI, 10, .inl (V_t_bn 4))), ((A_t_bn 5), .inl (cI, 10, .inl (V_t_bn 5))), ((A_t_bo 0), .inl (cI, 12, .inl (V_t_bo 0))), ((A_t_bo 1), .inl (cI, 12, .inl (V_t_bo 1))), ((A_t_bo 2), .inl (cI, 12, .inl (V_t_bo 2))), ((A_t_bo 3), .inl (cI, 12, .inl (V_t_bo 3))), ((A_t_bo 4), .inl (cI, 12, .inl (V_t_bo 4))), ((A_t_bo 5), .inl (cI, 12, .inl (V_t_bo 5))), ((A_t_bc 0), .inl (cI, 63, .inl (V_t_bc 0))), ((A_t_bc 1), .inl (cI, 63, .inl (V_t_bc 1))), ((A_t_bc 2), .inl (cI, 63, .inl (V_t_bc 2))), ((A_t_bc 3), .inl (cI, 63, .inl (V_t_bc 3))), ((A_t_bc 4), .inl (cI, 63, .inl (V_t_bc 4))), ((A_t_bc 5), .inl (cI, 63, .inl (V_t_bc 5))), (A_p1, .inr (0, [.ref A_p1_numbers, .ref A_p1_owners, .ref A_p1_cells])), (A_p1_numbers, .inl (cI, 10, .inl w2)), (A_p1_owners, .inl (cI, 12, .inl w3)), (A_p1_cells, .inl (cI, 63, .inl w4))]) 0 0 (va_A [(A_t, .inr (1, [.ref A_t_boards, .int V_t_oldest, .int V_t_saved])), (A_t_boards, .inl (cB, 6, .inr (.inr (.inr (.inr (fun j => some (A_t_b j))))))), ((A_t_b 0), .inr (0, [.ref (A_t_bn 0), .ref (A_t_bo 0), .ref (A_t_bc 0)])), ((A_t_b 1), .inr (0, [.ref (A_t_bn 1), .ref (A_t_bo 1), .ref (A_t_bc 1)])), ((A_t_b 2), .inr (0, [.ref (A_t_bn 2), .ref (A_t_bo 2), .ref (A_t_bc 2)])), ((A_t_b 3), .inr (0, [.ref (A_t_bn 3), .ref (A_t_bo 3), .ref (A_t_bc 3)])), ((A_t_b 4), .inr (0, [.ref (A_t_bn 4), .ref (A_t_bo 4), .ref (A_t_bc 4)])), ((A_t_b 5), .inr (0, [.ref (A_t_bn 5), .ref (A_t_bo 5), .ref (A_t_bc 5)])), ((A_t_bn 0), .inl (cI, 10, .inl (V_t_bn 0))), ((A_t_bn 1), .inl (cI, 10, .inl (V_t_bn 1))), ((A_t_bn 2), .inl (cI, 10, .inl (V_t_bn 2))), ((A_t_bn 3), .inl (cI, 10, .inl (V_t_bn 3))), ((A_t_bn 4), .inl (cI, 10, .inl (V_t_bn 4))), ((A_t_bn 5), .inl (cI, 10, .inl (V_t_bn 5))), ((A_t_bo 0), .inl (cI, 12, .inl (V_t_bo 0))), ((A_t_bo 1), .inl (cI, 12, .inl (V_t_bo 1))), ((A_t_bo 2), .inl (cI, 12, .inl (V_t_bo 2))), ((A_t_bo 3), .inl (cI, 12, .inl (V_t_bo 3))), ((A_t_bo 4), .inl (cI, 12, .inl (V_t_bo 4))), ((A_t_bo 5), .inl (cI, 12, .inl (V_t_bo 5))), ((A_t_bc 0), .inl (cI, 63, .inl (V_t_bc 0))), ((A_t_bc 1), .inl (cI, 63, .inl (V_t_bc 1))), ((A_t_bc 2), .inl (cI, 63, .inl (V_t_bc 2))), ((A_t_bc 3), .inl (cI, 63, .inl (V_t_bc 3))), ((A_t_bc 4), .inl (cI, 63, .inl (V_t_bc 4))), ((A_t_bc 5), .inl (cI, 63, .inl (V_t_bc 5))), (A_p1, .inr (0, [.ref A_p1_numbers, .ref A_p1_owners, .ref A_p1_cells])), (A_p1_numbers, .inl (cI, 10, .inl V_p1_numbers)), (A_p1_owners, .inl (cI, 12, .inl V_p1_owners)), (A_p1_cells, .inl (cI, 63, .inl V_p1_cells))] sz) := by
  refine bodyWv (cc := cX1_takeBack) (maxL := 3) (lv := [(0, .ref A_t), (1, .ref A_p1)]) (by decide) rfl (Nat.le_of_ble_eq_true rfl) rfl ?_
  intro p e s m args below meth c Q hx hb hml hown hts A hP hK hD hA hS fin ls hl
  replace hown : s.vm.findClass RX1 = some m.cls := hown
  have S : CallFix p m c cX1_takeBack 3 s args wsX1_takeBack RX1 := ⟨hx, hb, hml, hown, hts⟩
  replace fin : ∀ (z9 : Int32 × (Nat → Int32) × (Nat → Int32) × (Nat → Int32)), z9 = (w1, w2, w3, w4) → ∀ (pc : Nat) (ls : Array Slot) (H : Heap) (locs : List Loc), decode cX1_takeBack pc = .ok (.return_, 1) → va_P D vwCl [(A_t, .inr (1, [.ref A_t_boards, .int V_t_oldest, .int z9.1])), (A_t_boards, .inl (cB, 6, .inr (.inr (.inr (.inr (fun j => some (A_t_b j))))))), ((A_t_b 0), .inr (0, [.ref (A_t_bn 0), .ref (A_t_bo 0), .ref (A_t_bc 0)])), ((A_t_b 1), .inr (0, [.ref (A_t_bn 1), .ref (A_t_bo 1), .ref (A_t_bc 1)])), ((A_t_b 2), .inr (0, [.ref (A_t_bn 2), .ref (A_t_bo 2), .ref (A_t_bc 2)])), ((A_t_b 3), .inr (0, [.ref (A_t_bn 3), .ref (A_t_bo 3), .ref (A_t_bc 3)])), ((A_t_b 4), .inr (0, [.ref (A_t_bn 4), .ref (A_t_bo 4), .ref (A_t_bc 4)])), ((A_t_b 5), .inr (0, [.ref (A_t_bn 5), .ref (A_t_bo 5), .ref (A_t_bc 5)])), ((A_t_bn 0), .inl (cI, 10, .inl (V_t_bn 0))), ((A_t_bn 1), .inl (cI, 10, .inl (V_t_bn 1))), ((A_t_bn 2), .inl (cI, 10, .inl (V_t_bn 2))), ((A_t_bn 3), .inl (cI, 10, .inl (V_t_bn 3))), ((A_t_bn 4), .inl (cI, 10, .inl (V_t_bn 4))), ((A_t_bn 5), .inl (cI, 10, .inl (V_t_bn 5))), ((A_t_bo 0), .inl (cI, 12, .inl (V_t_bo 0))), ((A_t_bo 1), .inl (cI, 12, .inl (V_t_bo 1))), ((A_t_bo 2), .inl (cI, 12, .inl (V_t_bo 2))), ((A_t_bo 3), .inl (cI, 12, .inl (V_t_bo 3))), ((A_t_bo 4), .inl (cI, 12, .inl (V_t_bo 4))), ((A_t_bo 5), .inl (cI, 12, .inl (V_t_bo 5))), ((A_t_bc 0), .inl (cI, 63, .inl (V_t_bc 0))), ((A_t_bc 1), .inl (cI, 63, .inl (V_t_bc 1))), ((A_t_bc 2), .inl (cI, 63, .inl (V_t_bc 2))), ((A_t_bc 3), .inl (cI, 63, .inl (V_t_bc 3))), ((A_t_bc 4), .inl (cI, 63, .inl (V_t_bc 4))), ((A_t_bc 5), .inl (cI, 63, .inl (V_t_bc 5))), (A_p1, .inr (0, [.ref A_p1_numbers, .ref A_p1_owners, .ref A_p1_cells])), (A_p1_numbers, .inl (cI, 10, .inl z9.2.1)), (A_p1_owners, .inl (cI, 12, .inl z9.2.2.1)), (A_p1_cells, .inl (cI, 63, .inl z9.2.2.2))] H → va_D A [(A_t, .inr (1, [.ref A_t_boards, .int V_t_oldest, .int z9.1])), (A_t_boards, .inl (cB, 6, .inr (.inr (.inr (.inr (fun j => some (A_t_b j))))))), ((A_t_b 0), .inr (0, [.ref (A_t_bn 0), .ref (A_t_bo 0), .ref (A_t_bc 0)])), ((A_t_b 1), .inr (0, [.ref (A_t_bn 1), .ref (A_t_bo 1), .ref (A_t_bc 1)])), ((A_t_b 2), .inr (0, [.ref (A_t_bn 2), .ref (A_t_bo 2), .ref (A_t_bc 2)])), ((A_t_b 3), .inr (0, [.ref (A_t_bn 3), .ref (A_t_bo 3), .ref (A_t_bc 3)])), ((A_t_b 4), .inr (0, [.ref (A_t_bn 4), .ref (A_t_bo 4), .ref (A_t_bc 4)])), ((A_t_b 5), .inr (0, [.ref (A_t_bn 5), .ref (A_t_bo 5), .ref (A_t_bc 5)])), ((A_t_bn 0), .inl (cI, 10, .inl (V_t_bn 0))), ((A_t_bn 1), .inl (cI, 10, .inl (V_t_bn 1))), ((A_t_bn 2), .inl (cI, 10, .inl (V_t_bn 2))), ((A_t_bn 3), .inl (cI, 10, .inl (V_t_bn 3))), ((A_t_bn 4), .inl (cI, 10, .inl (V_t_bn 4))), ((A_t_bn 5), .inl (cI, 10, .inl (V_t_bn 5))), ((A_t_bo 0), .inl (cI, 12, .inl (V_t_bo 0))), ((A_t_bo 1), .inl (cI, 12, .inl (V_t_bo 1))), ((A_t_bo 2), .inl (cI, 12, .inl (V_t_bo 2))), ((A_t_bo 3), .inl (cI, 12, .inl (V_t_bo 3))), ((A_t_bo 4), .inl (cI, 12, .inl (V_t_bo 4))), ((A_t_bo 5), .inl (cI, 12, .inl (V_t_bo 5))), ((A_t_bc 0), .inl (cI, 63, .inl (V_t_bc 0))), ((A_t_bc 1), .inl (cI, 63, .inl (V_t_bc 1))), ((A_t_bc 2), .inl (cI, 63, .inl (V_t_bc 2))), ((A_t_bc 3), .inl (cI, 63, .inl (V_t_bc 3))), ((A_t_bc 4), .inl (cI, 63, .inl (V_t_bc 4))), ((A_t_bc 5), .inl (cI, 63, .inl (V_t_bc 5))), (A_p1, .inr (0, [.ref A_p1_numbers, .ref A_p1_owners, .ref A_p1_cells])), (A_p1_numbers, .inl (cI, 10, .inl z9.2.1)), (A_p1_owners, .inl (cI, 12, .inl z9.2.2.1)), (A_p1_cells, .inl (cI, 63, .inl z9.2.2.2))] → va_S A s.heap H locs → W p l e rX1_takeBack s m args below meth c H locs 0 0 Q (F0 m pc ls []) := fun z9 e9 => by subst e9; exact fin
  unfold g_X1_takeBack at hg
  refine lv_aload_n hx hb dX1_takeBack_0 rfl (lv_at hl 0 rfl) ?_
  refine lv_aload_n hx hb dX1_takeBack_1 rfl (lv_at hl 0 rfl) ?_
  refine xget (ci := 1) (C := RX1) (T := TX1) (N := 3) (v := .int V_t_saved) hx hb hts in_X1_takeBack_X1 hown hK hP 0 rfl rfl 2 (by decide) wd_X1_takeBack_1 rfl dX1_takeBack_2 ?_
  refine lv_iconst (v := 1) hx hb dX1_takeBack_5 (by decide) ?_
  refine lv_isub hx hb dX1_takeBack_6 ?_
  obtain ⟨v1, hq, hg⟩ := bind_ex hg
  refine callRVq (As := [.int (V_t_saved - 1)]) (rest := []) S hK hP (c_X1_placeOf l D cI cZ cB cJ A_t A_t_boards A_t_b V_t_oldest V_t_saved (V_t_saved - 1) v1 hq) [0, 1] rfl (cwV 1 hts gX1_takeBack_X1_placeOf rfl rfl rfl hd_X1_placeOf ⟨Nat.le_of_ble_eq_true rfl, Nat.le_of_ble_eq_true rfl⟩) rfl rfl rfl hl.1 rfl (Nat.le_of_ble_eq_true rfl) dX1_takeBack_7 ⟨Nat.zero_le _, Nat.zero_le _⟩ ?_
  by_cases hk : v1 < 0
  · replace hg := if_yes hg hk
    rw [plq_neg hk]
    refine lv_astore_nN (lv' := [(2, .null), (0, .ref A_t), (1, .ref A_p1)]) hx hb dX1_takeBack_10 rfl hl (by decide) rfl (fun ls hl => ?_)
    refine lv_aload_nN hx hb dX1_takeBack_11 rfl (lv_at hl 0 rfl) ?_
    refine lv_ifnullN (tgt := 30) hx hb dX1_takeBack_12 (by decide) ?_
    exact fin _ (Option.some.inj hg) _ _ _ _ dX1_takeBack_30 hP hD hS
  · replace hg := if_no hg hk
    by_cases hk0 : v1 = 0
    · replace hg := if_yes hg hk0
      rw [hk0, show va_rf (plq A_t_b 0) = .ref (A_t_b 0) from rfl]
      refine lv_astore_n (lv' := [(2, .ref (A_t_b 0)), (0, .ref A_t), (1, .ref A_p1)]) hx hb dX1_takeBack_10 rfl hl (by decide) rfl (fun ls hl => ?_)
      refine lv_aload_n hx hb dX1_takeBack_11 rfl (lv_at hl 0 rfl) ?_
      refine lv_ifnull hx hb dX1_takeBack_12 ?_
      refine lv_aload_n hx hb dX1_takeBack_15 rfl (lv_at hl 2 rfl) ?_
      refine lv_aload_n hx hb dX1_takeBack_16 rfl (lv_at hl 0 rfl) ?_
      obtain ⟨f2, f3, f4, hq, hg⟩ := b3_ex hg
      refine callWVv (As := [.ref (A_t_b 0)]) (rest := []) (wr := [(A_t, .inr (1, [.ref A_t_boards, .int V_t_oldest, .int V_t_saved])), (A_t_boards, .inl (cB, 6, .inr (.inr (.inr (.inr (fun j => some (A_t_b j))))))), ((A_t_b 1), .inr (0, [.ref (A_t_bn 1), .ref (A_t_bo 1), .ref (A_t_bc 1)])), ((A_t_b 2), .inr (0, [.ref (A_t_bn 2), .ref (A_t_bo 2), .ref (A_t_bc 2)])), ((A_t_b 3), .inr (0, [.ref (A_t_bn 3), .ref (A_t_bo 3), .ref (A_t_bc 3)])), ((A_t_b 4), .inr (0, [.ref (A_t_bn 4), .ref (A_t_bo 4), .ref (A_t_bc 4)])), ((A_t_b 5), .inr (0, [.ref (A_t_bn 5), .ref (A_t_bo 5), .ref (A_t_bc 5)])), ((A_t_bn 1), .inl (cI, 10, .inl (V_t_bn 1))), ((A_t_bn 2), .inl (cI, 10, .inl (V_t_bn 2))), ((A_t_bn 3), .inl (cI, 10, .inl (V_t_bn 3))), ((A_t_bn 4), .inl (cI, 10, .inl (V_t_bn 4))), ((A_t_bn 5), .inl (cI, 10, .inl (V_t_bn 5))), ((A_t_bo 1), .inl (cI, 12, .inl (V_t_bo 1))), ((A_t_bo 2), .inl (cI, 12, .inl (V_t_bo 2))), ((A_t_bo 3), .inl (cI, 12, .inl (V_t_bo 3))), ((A_t_bo 4), .inl (cI, 12, .inl (V_t_bo 4))), ((A_t_bo 5), .inl (cI, 12, .inl (V_t_bo 5))), ((A_t_bc 1), .inl (cI, 63, .inl (V_t_bc 1))), ((A_t_bc 2), .inl (cI, 63, .inl (V_t_bc 2))), ((A_t_bc 3), .inl (cI, 63, .inl (V_t_bc 3))), ((A_t_bc 4), .inl (cI, 63, .inl (V_t_bc 4))), ((A_t_bc 5), .inl (cI, 63, .inl (V_t_bc 5)))]) S hK hP hD hS hA (c_X0_copyFrom l D cI cZ cB cJ A_p1 A_p1_numbers A_p1_owners A_p1_cells (A_t_b 0) (A_t_bn 0) (A_t_bo 0) (A_t_bc 0) _ (V_t_bn 0) V_p1_numbers (V_t_bo 0) V_p1_owners (V_t_bc 0) V_p1_cells f2 f3 f4 hq) [26, 2, 8, 27, 14, 28, 20, 29] [0, 1, 3, 4, 5, 6, 7, 9, 10, 11, 12, 13, 15, 16, 17, 18, 19, 21, 22, 23, 24, 25] rfl rfl (by decide +kernel) (by decide +kernel) (by decide +kernel) (cwV 1 hts gX1_takeBack_X0_copyFrom rfl rfl rfl hd_X0_copyFrom ⟨Nat.le_of_ble_eq_true rfl, Nat.le_of_ble_eq_true rfl⟩) rfl rfl rfl hl.1 rfl (Nat.le_of_ble_eq_true rfl) dX1_takeBack_17 ⟨Nat.zero_le _, Nat.zero_le _⟩ (fun H locs hP hD hS => ?_)
      replace hP : va_P D vwCl [(A_t, .inr (1, [.ref A_t_boards, .int V_t_oldest, .int V_t_saved])), (A_t_boards, .inl (cB, 6, .inr (.inr (.inr (.inr (fun j => some (A_t_b j))))))), ((A_t_b 1), .inr (0, [.ref (A_t_bn 1), .ref (A_t_bo 1), .ref (A_t_bc 1)])), ((A_t_b 2), .inr (0, [.ref (A_t_bn 2), .ref (A_t_bo 2), .ref (A_t_bc 2)])), ((A_t_b 3), .inr (0, [.ref (A_t_bn 3), .ref (A_t_bo 3), .ref (A_t_bc 3)])), ((A_t_b 4), .inr (0, [.ref (A_t_bn 4), .ref (A_t_bo 4), .ref (A_t_bc 4)])), ((A_t_b 5), .inr (0, [.ref (A_t_bn 5), .ref (A_t_bo 5), .ref (A_t_bc 5)])), ((A_t_bn 1), .inl (cI, 10, .inl (V_t_bn 1))), ((A_t_bn 2), .inl (cI, 10, .inl (V_t_bn 2))), ((A_t_bn 3), .inl (cI, 10, .inl (V_t_bn 3))), ((A_t_bn 4), .inl (cI, 10, .inl (V_t_bn 4))), ((A_t_bn 5), .inl (cI, 10, .inl (V_t_bn 5))), ((A_t_bo 1), .inl (cI, 12, .inl (V_t_bo 1))), ((A_t_bo 2), .inl (cI, 12, .inl (V_t_bo 2))), ((A_t_bo 3), .inl (cI, 12, .inl (V_t_bo 3))), ((A_t_bo 4), .inl (cI, 12, .inl (V_t_bo 4))), ((A_t_bo 5), .inl (cI, 12, .inl (V_t_bo 5))), ((A_t_bc 1), .inl (cI, 63, .inl (V_t_bc 1))), ((A_t_bc 2), .inl (cI, 63, .inl (V_t_bc 2))), ((A_t_bc 3), .inl (cI, 63, .inl (V_t_bc 3))), ((A_t_bc 4), .inl (cI, 63, .inl (V_t_bc 4))), ((A_t_bc 5), .inl (cI, 63, .inl (V_t_bc 5))), (A_p1, .inr (0, [.ref A_p1_numbers, .ref A_p1_owners, .ref A_p1_cells])), ((A_t_b 0), .inr (0, [.ref (A_t_bn 0), .ref (A_t_bo 0), .ref (A_t_bc 0)])), ((A_t_bn 0), .inl (cI, 10, .inl (V_t_bn 0))), (A_p1_numbers, .inl (cI, 10, .inl f2)), ((A_t_bo 0), .inl (cI, 12, .inl (V_t_bo 0))), (A_p1_owners, .inl (cI, 12, .inl f3)), ((A_t_bc 0), .inl (cI, 63, .inl (V_t_bc 0))), (A_p1_cells, .inl (cI, 63, .inl f4))] H := hP
      replace hD : va_D A [(A_t, .inr (1, [.ref A_t_boards, .int V_t_oldest, .int V_t_saved])), (A_t_boards, .inl (cB, 6, .inr (.inr (.inr (.inr (fun j => some (A_t_b j))))))), ((A_t_b 1), .inr (0, [.ref (A_t_bn 1), .ref (A_t_bo 1), .ref (A_t_bc 1)])), ((A_t_b 2), .inr (0, [.ref (A_t_bn 2), .ref (A_t_bo 2), .ref (A_t_bc 2)])), ((A_t_b 3), .inr (0, [.ref (A_t_bn 3), .ref (A_t_bo 3), .ref (A_t_bc 3)])), ((A_t_b 4), .inr (0, [.ref (A_t_bn 4), .ref (A_t_bo 4), .ref (A_t_bc 4)])), ((A_t_b 5), .inr (0, [.ref (A_t_bn 5), .ref (A_t_bo 5), .ref (A_t_bc 5)])), ((A_t_bn 1), .inl (cI, 10, .inl (V_t_bn 1))), ((A_t_bn 2), .inl (cI, 10, .inl (V_t_bn 2))), ((A_t_bn 3), .inl (cI, 10, .inl (V_t_bn 3))), ((A_t_bn 4), .inl (cI, 10, .inl (V_t_bn 4))), ((A_t_bn 5), .inl (cI, 10, .inl (V_t_bn 5))), ((A_t_bo 1), .inl (cI, 12, .inl (V_t_bo 1))), ((A_t_bo 2), .inl (cI, 12, .inl (V_t_bo 2))), ((A_t_bo 3), .inl (cI, 12, .inl (V_t_bo 3))), ((A_t_bo 4), .inl (cI, 12, .inl (V_t_bo 4))), ((A_t_bo 5), .inl (cI, 12, .inl (V_t_bo 5))), ((A_t_bc 1), .inl (cI, 63, .inl (V_t_bc 1))), ((A_t_bc 2), .inl (cI, 63, .inl (V_t_bc 2))), ((A_t_bc 3), .inl (cI, 63, .inl (V_t_bc 3))), ((A_t_bc 4), .inl (cI, 63, .inl (V_t_bc 4))), ((A_t_bc 5), .inl (cI, 63, .inl (V_t_bc 5))), (A_p1, .inr (0, [.ref A_p1_numbers, .ref A_p1_owners, .ref A_p1_cells])), ((A_t_b 0), .inr (0, [.ref (A_t_bn 0), .ref (A_t_bo 0), .ref (A_t_bc 0)])), ((A_t_bn 0), .inl (cI, 10, .inl (V_t_bn 0))), (A_p1_numbers, .inl (cI, 10, .inl f2)), ((A_t_bo 0), .inl (cI, 12, .inl (V_t_bo 0))), (A_p1_owners, .inl (cI, 12, .inl f3)), ((A_t_bc 0), .inl (cI, 63, .inl (V_t_bc 0))), (A_p1_cells, .inl (cI, 63, .inl f4))] := hD
      refine lv_aload_n hx hb dX1_takeBack_20 rfl (lv_at hl 1 rfl) ?_
      refine lv_dup hx hb dX1_takeBack_21 rfl ?_
      refine xget (ci := 1) (C := RX1) (T := TX1) (N := 3) (v := .int V_t_saved) hx hb hts in_X1_takeBack_X1 hown hK hP 0 rfl rfl 2 (by decide) wd_X1_takeBack_1 rfl dX1_takeBack_22 ?_
      refine lv_iconst (v := 1) hx hb dX1_takeBack_25 (by decide) ?_
      refine lv_isub hx hb dX1_takeBack_26 ?_
      refine xput (ci := 1) (C := RX1) (T := TX1) (N := 3) (ty := .int) (v := .int (V_t_saved - 1)) (ws2 := [(A_t, .inr (1, [.ref A_t_boards, .int V_t_oldest, .int (V_t_saved - 1)])), (A_t_boards, .inl (cB, 6, .inr (.inr (.inr (.inr (fun j => some (A_t_b j))))))), ((A_t_b 1), .inr (0, [.ref (A_t_bn 1), .ref (A_t_bo 1), .ref (A_t_bc 1)])), ((A_t_b 2), .inr (0, [.ref (A_t_bn 2), .ref (A_t_bo 2), .ref (A_t_bc 2)])), ((A_t_b 3), .inr (0, [.ref (A_t_bn 3), .ref (A_t_bo 3), .ref (A_t_bc 3)])), ((A_t_b 4), .inr (0, [.ref (A_t_bn 4), .ref (A_t_bo 4), .ref (A_t_bc 4)])), ((A_t_b 5), .inr (0, [.ref (A_t_bn 5), .ref (A_t_bo 5), .ref (A_t_bc 5)])), ((A_t_bn 1), .inl (cI, 10, .inl (V_t_bn 1))), ((A_t_bn 2), .inl (cI, 10, .inl (V_t_bn 2))), ((A_t_bn 3), .inl (cI, 10, .inl (V_t_bn 3))), ((A_t_bn 4), .inl (cI, 10, .inl (V_t_bn 4))), ((A_t_bn 5), .inl (cI, 10, .inl (V_t_bn 5))), ((A_t_bo 1), .inl (cI, 12, .inl (V_t_bo 1))), ((A_t_bo 2), .inl (cI, 12, .inl (V_t_bo 2))), ((A_t_bo 3), .inl (cI, 12, .inl (V_t_bo 3))), ((A_t_bo 4), .inl (cI, 12, .inl (V_t_bo 4))), ((A_t_bo 5), .inl (cI, 12, .inl (V_t_bo 5))), ((A_t_bc 1), .inl (cI, 63, .inl (V_t_bc 1))), ((A_t_bc 2), .inl (cI, 63, .inl (V_t_bc 2))), ((A_t_bc 3), .inl (cI, 63, .inl (V_t_bc 3))), ((A_t_bc 4), .inl (cI, 63, .inl (V_t_bc 4))), ((A_t_bc 5), .inl (cI, 63, .inl (V_t_bc 5))), (A_p1, .inr (0, [.ref A_p1_numbers, .ref A_p1_owners, .ref A_p1_cells])), ((A_t_b 0), .inr (0, [.ref (A_t_bn 0), .ref (A_t_bo 0), .ref (A_t_bc 0)])), ((A_t_bn 0), .inl (cI, 10, .inl (V_t_bn 0))), (A_p1_numbers, .inl (cI, 10, .inl f2)), ((A_t_bo 0), .inl (cI, 12, .inl (V_t_bo 0))), (A_p1_owners, .inl (cI, 12, .inl f3)), ((A_t_bc 0), .inl (cI, 63, .inl (V_t_bc 0))), (A_p1_cells, .inl (cI, 63, .inl f4))]) hx hb hts in_X1_takeBack_X1 tyX1 tyX1_ok nmX1 hown hK hP hD hS 0 rfl rfl 2 (by decide) wd_X1_takeBack_1 rfl (by decide +kernel) rfl rfl (Nat.le_of_ble_eq_true rfl) rfl dX1_takeBack_27 (fun H locs hP hD hS => ?_)
      exact fin _ (Option.some.inj hg) _ _ _ _ dX1_takeBack_30 (hP.sub [0, 1, 23, 2, 3, 4, 5, 6, 24, 7, 8, 9, 10, 11, 26, 12, 13, 14, 15, 16, 28, 17, 18, 19, 20, 21, 22, 25, 27, 29] rfl) (hD.sub [0, 1, 23, 2, 3, 4, 5, 6, 24, 7, 8, 9, 10, 11, 26, 12, 13, 14, 15, 16, 28, 17, 18, 19, 20, 21, 22, 25, 27, 29] (by decide) rfl) hS
    · replace hg := if_no hg hk0
      by_cases hk1 : v1 = 1
      · replace hg := if_yes hg hk1
        rw [hk1, show va_rf (plq A_t_b 1) = .ref (A_t_b 1) from rfl]
        refine lv_astore_n (lv' := [(2, .ref (A_t_b 1)), (0, .ref A_t), (1, .ref A_p1)]) hx hb dX1_takeBack_10 rfl hl (by decide) rfl (fun ls hl => ?_)
        refine lv_aload_n hx hb dX1_takeBack_11 rfl (lv_at hl 0 rfl) ?_
        refine lv_ifnull hx hb dX1_takeBack_12 ?_
        refine lv_aload_n hx hb dX1_takeBack_15 rfl (lv_at hl 2 rfl) ?_
        refine lv_aload_n hx hb dX1_takeBack_16 rfl (lv_at hl 0 rfl) ?_
        obtain ⟨f5, f6, f7, hq, hg⟩ := b3_ex hg
        refine callWVv (As := [.ref (A_t_b 1)]) (rest := []) (wr := [(A_t, .inr (1, [.ref A_t_boards, .int V_t_oldest, .int V_t_saved])), (A_t_boards, .inl (cB, 6, .inr (.inr (.inr (.inr (fun j => some (A_t_b j))))))), ((A_t_b 0), .inr (0, [.ref (A_t_bn 0), .ref (A_t_bo 0), .ref (A_t_bc 0)])), ((A_t_b 2), .inr (0, [.ref (A_t_bn 2), .ref (A_t_bo 2), .ref (A_t_bc 2)])), ((A_t_b 3), .inr (0, [.ref (A_t_bn 3), .ref (A_t_bo 3), .ref (A_t_bc 3)])), ((A_t_b 4), .inr (0, [.ref (A_t_bn 4), .ref (A_t_bo 4), .ref (A_t_bc 4)])), ((A_t_b 5), .inr (0, [.ref (A_t_bn 5), .ref (A_t_bo 5), .ref (A_t_bc 5)])), ((A_t_bn 0), .inl (cI, 10, .inl (V_t_bn 0))), ((A_t_bn 2), .inl (cI, 10, .inl (V_t_bn 2))), ((A_t_bn 3), .inl (cI, 10, .inl (V_t_bn 3))), ((A_t_bn 4), .inl (cI, 10, .inl (V_t_bn 4))), ((A_t_bn 5), .inl (cI, 10, .inl (V_t_bn 5))), ((A_t_bo 0), .inl (cI, 12, .inl (V_t_bo 0))), ((A_t_bo 2), .inl (cI, 12, .inl (V_t_bo 2))), ((A_t_bo 3), .inl (cI, 12, .inl (V_t_bo 3))), ((A_t_bo 4), .inl (cI, 12, .inl (V_t_bo 4))), ((A_t_bo 5), .inl (cI, 12, .inl (V_t_bo 5))), ((A_t_bc 0), .inl (cI, 63, .inl (V_t_bc 0))), ((A_t_bc 2), .inl (cI, 63, .inl (V_t_bc 2))), ((A_t_bc 3), .inl (cI, 63, .inl (V_t_bc 3))), ((A_t_bc 4), .inl (cI, 63, .inl (V_t_bc 4))), ((A_t_bc 5), .inl (cI, 63, .inl (V_t_bc 5)))]) S hK hP hD hS hA (c_X0_copyFrom l D cI cZ cB cJ A_p1 A_p1_numbers A_p1_owners A_p1_cells (A_t_b 1) (A_t_bn 1) (A_t_bo 1) (A_t_bc 1) _ (V_t_bn 1) V_p1_numbers (V_t_bo 1) V_p1_owners (V_t_bc 1) V_p1_cells f5 f6 f7 hq) [26, 3, 9, 27, 15, 28, 21, 29] [0, 1, 2, 4, 5, 6, 7, 8, 10, 11, 12, 13, 14, 16, 17, 18, 19, 20, 22, 23, 24, 25] rfl rfl (by decide +kernel) (by decide +kernel) (by decide +kernel) (cwV 1 hts gX1_takeBack_X0_copyFrom rfl rfl rfl hd_X0_copyFrom ⟨Nat.le_of_ble_eq_true rfl, Nat.le_of_ble_eq_true rfl⟩) rfl rfl rfl hl.1 rfl (Nat.le_of_ble_eq_true rfl) dX1_takeBack_17 ⟨Nat.zero_le _, Nat.zero_le _⟩ (fun H locs hP hD hS => ?_)
        replace hP : va_P D vwCl [(A_t, .inr (1, [.ref A_t_boards, .int V_t_oldest, .int V_t_saved])), (A_t_boards, .inl (cB, 6, .inr (.inr (.inr (.inr (fun j => some (A_t_b j))))))), ((A_t_b 0), .inr (0, [.ref (A_t_bn 0), .ref (A_t_bo 0), .ref (A_t_bc 0)])), ((A_t_b 2), .inr (0, [.ref (A_t_bn 2), .ref (A_t_bo 2), .ref (A_t_bc 2)])), ((A_t_b 3), .inr (0, [.ref (A_t_bn 3), .ref (A_t_bo 3), .ref (A_t_bc 3)])), ((A_t_b 4), .inr (0, [.ref (A_t_bn 4), .ref (A_t_bo 4), .ref (A_t_bc 4)])), ((A_t_b 5), .inr (0, [.ref (A_t_bn 5), .ref (A_t_bo 5), .ref (A_t_bc 5)])), ((A_t_bn 0), .inl (cI, 10, .inl (V_t_bn 0))), ((A_t_bn 2), .inl (cI, 10, .inl (V_t_bn 2))), ((A_t_bn 3), .inl (cI, 10, .inl (V_t_bn 3))), ((A_t_bn 4), .inl (cI, 10, .inl (V_t_bn 4))), ((A_t_bn 5), .inl (cI, 10, .inl (V_t_bn 5))), ((A_t_bo 0), .inl (cI, 12, .inl (V_t_bo 0))), ((A_t_bo 2), .inl (cI, 12, .inl (V_t_bo 2))), ((A_t_bo 3), .inl (cI, 12, .inl (V_t_bo 3))), ((A_t_bo 4), .inl (cI, 12, .inl (V_t_bo 4))), ((A_t_bo 5), .inl (cI, 12, .inl (V_t_bo 5))), ((A_t_bc 0), .inl (cI, 63, .inl (V_t_bc 0))), ((A_t_bc 2), .inl (cI, 63, .inl (V_t_bc 2))), ((A_t_bc 3), .inl (cI, 63, .inl (V_t_bc 3))), ((A_t_bc 4), .inl (cI, 63, .inl (V_t_bc 4))), ((A_t_bc 5), .inl (cI, 63, .inl (V_t_bc 5))), (A_p1, .inr (0, [.ref A_p1_numbers, .ref A_p1_owners, .ref A_p1_cells])), ((A_t_b 1), .inr (0, [.ref (A_t_bn 1), .ref (A_t_bo 1), .ref (A_t_bc 1)])), ((A_t_bn 1), .inl (cI, 10, .inl (V_t_bn 1))), (A_p1_numbers, .inl (cI, 10, .inl f5)), ((A_t_bo 1), .inl (cI, 12, .inl (V_t_bo 1))), (A_p1_owners, .inl (cI, 12, .inl f6)), ((A_t_bc 1), .inl (cI, 63, .inl (V_t_bc 1))), (A_p1_cells, .inl (cI, 63, .inl f7))] H := hP
        replace hD : va_D A [(A_t, .inr (1, [.ref A_t_boards, .int V_t_oldest, .int V_t_saved])), (A_t_boards, .inl (cB, 6, .inr (.inr (.inr (.inr (fun j => some (A_t_b j))))))), ((A_t_b 0), .inr (0, [.ref (A_t_bn 0), .ref (A_t_bo 0), .ref (A_t_bc 0)])), ((A_t_b 2), .inr (0, [.ref (A_t_bn 2), .ref (A_t_bo 2), .ref (A_t_bc 2)])), ((A_t_b 3), .inr (0, [.ref (A_t_bn 3), .ref (A_t_bo 3), .ref (A_t_bc 3)])), ((A_t_b 4), .inr (0, [.ref (A_t_bn 4), .ref (A_t_bo 4), .ref (A_t_bc 4)])), ((A_t_b 5), .inr (0, [.ref (A_t_bn 5), .ref (A_t_bo 5), .ref (A_t_bc 5)])), ((A_t_bn 0), .inl (cI, 10, .inl (V_t_bn 0))), ((A_t_bn 2), .inl (cI, 10, .inl (V_t_bn 2))), ((A_t_bn 3), .inl (cI, 10, .inl (V_t_bn 3))), ((A_t_bn 4), .inl (cI, 10, .inl (V_t_bn 4))), ((A_t_bn 5), .inl (cI, 10, .inl (V_t_bn 5))), ((A_t_bo 0), .inl (cI, 12, .inl (V_t_bo 0))), ((A_t_bo 2), .inl (cI, 12, .inl (V_t_bo 2))), ((A_t_bo 3), .inl (cI, 12, .inl (V_t_bo 3))), ((A_t_bo 4), .inl (cI, 12, .inl (V_t_bo 4))), ((A_t_bo 5), .inl (cI, 12, .inl (V_t_bo 5))), ((A_t_bc 0), .inl (cI, 63, .inl (V_t_bc 0))), ((A_t_bc 2), .inl (cI, 63, .inl (V_t_bc 2))), ((A_t_bc 3), .inl (cI, 63, .inl (V_t_bc 3))), ((A_t_bc 4), .inl (cI, 63, .inl (V_t_bc 4))), ((A_t_bc 5), .inl (cI, 63, .inl (V_t_bc 5))), (A_p1, .inr (0, [.ref A_p1_numbers, .ref A_p1_owners, .ref A_p1_cells])), ((A_t_b 1), .inr (0, [.ref (A_t_bn 1), .ref (A_t_bo 1), .ref (A_t_bc 1)])), ((A_t_bn 1), .inl (cI, 10, .inl (V_t_bn 1))), (A_p1_numbers, .inl (cI, 10, .inl f5)), ((A_t_bo 1), .inl (cI, 12, .inl (V_t_bo 1))), (A_p1_owners, .inl (cI, 12, .inl f6)), ((A_t_bc 1), .inl (cI, 63, .inl (V_t_bc 1))), (A_p1_cells, .inl (cI, 63, .inl f7))] := hD
        refine lv_aload_n hx hb dX1_takeBack_20 rfl (lv_at hl 1 rfl) ?_
        refine lv_dup hx hb dX1_takeBack_21 rfl ?_
        refine xget (ci := 1) (C := RX1) (T := TX1) (N := 3) (v := .int V_t_saved) hx hb hts in_X1_takeBack_X1 hown hK hP 0 rfl rfl 2 (by decide) wd_X1_takeBack_1 rfl dX1_takeBack_22 ?_
        refine lv_iconst (v := 1) hx hb dX1_takeBack_25 (by decide) ?_
        refine lv_isub hx hb dX1_takeBack_26 ?_
        refine xput (ci := 1) (C := RX1) (T := TX1) (N := 3) (ty := .int) (v := .int (V_t_saved - 1)) (ws2 := [(A_t, .inr (1, [.ref A_t_boards, .int V_t_oldest, .int (V_t_saved - 1)])), (A_t_boards, .inl (cB, 6, .inr (.inr (.inr (.inr (fun j => some (A_t_b j))))))), ((A_t_b 0), .inr (0, [.ref (A_t_bn 0), .ref (A_t_bo 0), .ref (A_t_bc 0)])), ((A_t_b 2), .inr (0, [.ref (A_t_bn 2), .ref (A_t_bo 2), .ref (A_t_bc 2)])), ((A_t_b 3), .inr (0, [.ref (A_t_bn 3), .ref (A_t_bo 3), .ref (A_t_bc 3)])), ((A_t_b 4), .inr (0, [.ref (A_t_bn 4), .ref (A_t_bo 4), .ref (A_t_bc 4)])), ((A_t_b 5), .inr (0, [.ref (A_t_bn 5), .ref (A_t_bo 5), .ref (A_t_bc 5)])), ((A_t_bn 0), .inl (cI, 10, .inl (V_t_bn 0))), ((A_t_bn 2), .inl (cI, 10, .inl (V_t_bn 2))), ((A_t_bn 3), .inl (cI, 10, .inl (V_t_bn 3))), ((A_t_bn 4), .inl (cI, 10, .inl (V_t_bn 4))), ((A_t_bn 5), .inl (cI, 10, .inl (V_t_bn 5))), ((A_t_bo 0), .inl (cI, 12, .inl (V_t_bo 0))), ((A_t_bo 2), .inl (cI, 12, .inl (V_t_bo 2))), ((A_t_bo 3), .inl (cI, 12, .inl (V_t_bo 3))), ((A_t_bo 4), .inl (cI, 12, .inl (V_t_bo 4))), ((A_t_bo 5), .inl (cI, 12, .inl (V_t_bo 5))), ((A_t_bc 0), .inl (cI, 63, .inl (V_t_bc 0))), ((A_t_bc 2), .inl (cI, 63, .inl (V_t_bc 2))), ((A_t_bc 3), .inl (cI, 63, .inl (V_t_bc 3))), ((A_t_bc 4), .inl (cI, 63, .inl (V_t_bc 4))), ((A_t_bc 5), .inl (cI, 63, .inl (V_t_bc 5))), (A_p1, .inr (0, [.ref A_p1_numbers, .ref A_p1_owners, .ref A_p1_cells])), ((A_t_b 1), .inr (0, [.ref (A_t_bn 1), .ref (A_t_bo 1), .ref (A_t_bc 1)])), ((A_t_bn 1), .inl (cI, 10, .inl (V_t_bn 1))), (A_p1_numbers, .inl (cI, 10, .inl f5)), ((A_t_bo 1), .inl (cI, 12, .inl (V_t_bo 1))), (A_p1_owners, .inl (cI, 12, .inl f6)), ((A_t_bc 1), .inl (cI, 63, .inl (V_t_bc 1))), (A_p1_cells, .inl (cI, 63, .inl f7))]) hx hb hts in_X1_takeBack_X1 tyX1 tyX1_ok nmX1 hown hK hP hD hS 0 rfl rfl 2 (by decide) wd_X1_takeBack_1 rfl (by decide +kernel) rfl rfl (Nat.le_of_ble_eq_true rfl) rfl dX1_takeBack_27 (fun H locs hP hD hS => ?_)
        exact fin _ (Option.some.inj hg) _ _ _ _ dX1_takeBack_30 (hP.sub [0, 1, 2, 23, 3, 4, 5, 6, 7, 24, 8, 9, 10, 11, 12, 26, 13, 14, 15, 16, 17, 28, 18, 19, 20, 21, 22, 25, 27, 29] rfl) (hD.sub [0, 1, 2, 23, 3, 4, 5, 6, 7, 24, 8, 9, 10, 11, 12, 26, 13, 14, 15, 16, 17, 28, 18, 19, 20, 21, 22, 25, 27, 29] (by decide) rfl) hS
      · replace hg := if_no hg hk1
        by_cases hk2 : v1 = 2
        · replace hg := if_yes hg hk2
          rw [hk2, show va_rf (plq A_t_b 2) = .ref (A_t_b 2) from rfl]
          refine lv_astore_n (lv' := [(2, .ref (A_t_b 2)), (0, .ref A_t), (1, .ref A_p1)]) hx hb dX1_takeBack_10 rfl hl (by decide) rfl (fun ls hl => ?_)
          refine lv_aload_n hx hb dX1_takeBack_11 rfl (lv_at hl 0 rfl) ?_
          refine lv_ifnull hx hb dX1_takeBack_12 ?_
          refine lv_aload_n hx hb dX1_takeBack_15 rfl (lv_at hl 2 rfl) ?_
          refine lv_aload_n hx hb dX1_takeBack_16 rfl (lv_at hl 0 rfl) ?_
          obtain ⟨f8, f9, f10, hq, hg⟩ := b3_ex hg
          refine callWVv (As := [.ref (A_t_b 2)]) (rest := []) (wr := [(A_t, .inr (1, [.ref A_t_boards, .int V_t_oldest, .int V_t_saved])), (A_t_boards, .inl (cB, 6, .inr (.inr (.inr (.inr (fun j => some (A_t_b j))))))), ((A_t_b 0), .inr (0, [.ref (A_t_bn 0), .ref (A_t_bo 0), .ref (A_t_bc 0)])), ((A_t_b 1), .inr (0, [.ref (A_t_bn 1), .ref (A_t_bo 1), .ref (A_t_bc 1)])), ((A_t_b 3), .inr (0, [.ref (A_t_bn 3), .ref (A_t_bo 3), .ref (A_t_bc 3)])), ((A_t_b 4), .inr (0, [.ref (A_t_bn 4), .ref (A_t_bo 4), .ref (A_t_bc 4)])), ((A_t_b 5), .inr (0, [.ref (A_t_bn 5), .ref (A_t_bo 5), .ref (A_t_bc 5)])), ((A_t_bn 0), .inl (cI, 10, .inl (V_t_bn 0))), ((A_t_bn 1), .inl (cI, 10, .inl (V_t_bn 1))), ((A_t_bn 3), .inl (cI, 10, .inl (V_t_bn 3))), ((A_t_bn 4), .inl (cI, 10, .inl (V_t_bn 4))), ((A_t_bn 5), .inl (cI, 10, .inl (V_t_bn 5))), ((A_t_bo 0), .inl (cI, 12, .inl (V_t_bo 0))), ((A_t_bo 1), .inl (cI, 12, .inl (V_t_bo 1))), ((A_t_bo 3), .inl (cI, 12, .inl (V_t_bo 3))), ((A_t_bo 4), .inl (cI, 12, .inl (V_t_bo 4))), ((A_t_bo 5), .inl (cI, 12, .inl (V_t_bo 5))), ((A_t_bc 0), .inl (cI, 63, .inl (V_t_bc 0))), ((A_t_bc 1), .inl (cI, 63, .inl (V_t_bc 1))), ((A_t_bc 3), .inl (cI, 63, .inl (V_t_bc 3))), ((A_t_bc 4), .inl (cI, 63, .inl (V_t_bc 4))), ((A_t_bc 5), .inl (cI, 63, .inl (V_t_bc 5)))]) S hK hP hD hS hA (c_X0_copyFrom l D cI cZ cB cJ A_p1 A_p1_numbers A_p1_owners A_p1_cells (A_t_b 2) (A_t_bn 2) (A_t_bo 2) (A_t_bc 2) _ (V_t_bn 2) V_p1_numbers (V_t_bo 2) V_p1_owners (V_t_bc 2) V_p1_cells f8 f9 f10 hq) [26, 4, 10, 27, 16, 28, 22, 29] [0, 1, 2, 3, 5, 6, 7, 8, 9, 11, 12, 13, 14, 15, 17, 18, 19, 20, 21, 23, 24, 25] rfl rfl (by decide +kernel) (by decide +kernel) (by decide +kernel) (cwV 1 hts gX1_takeBack_X0_copyFrom rfl rfl rfl hd_X0_copyFrom ⟨Nat.le_of_ble_eq_true rfl, Nat.le_of_ble_eq_true rfl⟩) rfl rfl rfl hl.1 rfl (Nat.le_of_ble_eq_true rfl) dX1_takeBack_17 ⟨Nat.zero_le _, Nat.zero_le _⟩ (fun H locs hP hD hS => ?_)
          replace hP : va_P D vwCl [(A_t, .inr (1, [.ref A_t_boards, .int V_t_oldest, .int V_t_saved])), (A_t_boards, .inl (cB, 6, .inr (.inr (.inr (.inr (fun j => some (A_t_b j))))))), ((A_t_b 0), .inr (0, [.ref (A_t_bn 0), .ref (A_t_bo 0), .ref (A_t_bc 0)])), ((A_t_b 1), .inr (0, [.ref (A_t_bn 1), .ref (A_t_bo 1), .ref (A_t_bc 1)])), ((A_t_b 3), .inr (0, [.ref (A_t_bn 3), .ref (A_t_bo 3), .ref (A_t_bc 3)])), ((A_t_b 4), .inr (0, [.ref (A_t_bn 4), .ref (A_t_bo 4), .ref (A_t_bc 4)])), ((A_t_b 5), .inr (0, [.ref (A_t_bn 5), .ref (A_t_bo 5), .ref (A_t_bc 5)])), ((A_t_bn 0), .inl (cI, 10, .inl (V_t_bn 0))), ((A_t_bn 1), .inl (cI, 10, .inl (V_t_bn 1))), ((A_t_bn 3), .inl (cI, 10, .inl (V_t_bn 3))), ((A_t_bn 4), .inl (cI, 10, .inl (V_t_bn 4))), ((A_t_bn 5), .inl (cI, 10, .inl (V_t_bn 5))), ((A_t_bo 0), .inl (cI, 12, .inl (V_t_bo 0))), ((A_t_bo 1), .inl (cI, 12, .inl (V_t_bo 1))), ((A_t_bo 3), .inl (cI, 12, .inl (V_t_bo 3))), ((A_t_bo 4), .inl (cI, 12, .inl (V_t_bo 4))), ((A_t_bo 5), .inl (cI, 12, .inl (V_t_bo 5))), ((A_t_bc 0), .inl (cI, 63, .inl (V_t_bc 0))), ((A_t_bc 1), .inl (cI, 63, .inl (V_t_bc 1))), ((A_t_bc 3), .inl (cI, 63, .inl (V_t_bc 3))), ((A_t_bc 4), .inl (cI, 63, .inl (V_t_bc 4))), ((A_t_bc 5), .inl (cI, 63, .inl (V_t_bc 5))), (A_p1, .inr (0, [.ref A_p1_numbers, .ref A_p1_owners, .ref A_p1_cells])), ((A_t_b 2), .inr (0, [.ref (A_t_bn 2), .ref (A_t_bo 2), .ref (A_t_bc 2)])), ((A_t_bn 2), .inl (cI, 10, .inl (V_t_bn 2))), (A_p1_numbers, .inl (cI, 10, .inl f8)), ((A_t_bo 2), .inl (cI, 12, .inl (V_t_bo 2))), (A_p1_owners, .inl (cI, 12, .inl f9)), ((A_t_bc 2), .inl (cI, 63, .inl (V_t_bc 2))), (A_p1_cells, .inl (cI, 63, .inl f10))] H := hP
          replace hD : va_D A [(A_t, .inr (1, [.ref A_t_boards, .int V_t_oldest, .int V_t_saved])), (A_t_boards, .inl (cB, 6, .inr (.inr (.inr (.inr (fun j => some (A_t_b j))))))), ((A_t_b 0), .inr (0, [.ref (A_t_bn 0), .ref (A_t_bo 0), .ref (A_t_bc 0)])), ((A_t_b 1), .inr (0, [.ref (A_t_bn 1), .ref (A_t_bo 1), .ref (A_t_bc 1)])), ((A_t_b 3), .inr (0, [.ref (A_t_bn 3), .ref (A_t_bo 3), .ref (A_t_bc 3)])), ((A_t_b 4), .inr (0, [.ref (A_t_bn 4), .ref (A_t_bo 4), .ref (A_t_bc 4)])), ((A_t_b 5), .inr (0, [.ref (A_t_bn 5), .ref (A_t_bo 5), .ref (A_t_bc 5)])), ((A_t_bn 0), .inl (cI, 10, .inl (V_t_bn 0))), ((A_t_bn 1), .inl (cI, 10, .inl (V_t_bn 1))), ((A_t_bn 3), .inl (cI, 10, .inl (V_t_bn 3))), ((A_t_bn 4), .inl (cI, 10, .inl (V_t_bn 4))), ((A_t_bn 5), .inl (cI, 10, .inl (V_t_bn 5))), ((A_t_bo 0), .inl (cI, 12, .inl (V_t_bo 0))), ((A_t_bo 1), .inl (cI, 12, .inl (V_t_bo 1))), ((A_t_bo 3), .inl (cI, 12, .inl (V_t_bo 3))), ((A_t_bo 4), .inl (cI, 12, .inl (V_t_bo 4))), ((A_t_bo 5), .inl (cI, 12, .inl (V_t_bo 5))), ((A_t_bc 0), .inl (cI, 63, .inl (V_t_bc 0))), ((A_t_bc 1), .inl (cI, 63, .inl (V_t_bc 1))), ((A_t_bc 3), .inl (cI, 63, .inl (V_t_bc 3))), ((A_t_bc 4), .inl (cI, 63, .inl (V_t_bc 4))), ((A_t_bc 5), .inl (cI, 63, .inl (V_t_bc 5))), (A_p1, .inr (0, [.ref A_p1_numbers, .ref A_p1_owners, .ref A_p1_cells])), ((A_t_b 2), .inr (0, [.ref (A_t_bn 2), .ref (A_t_bo 2), .ref (A_t_bc 2)])), ((A_t_bn 2), .inl (cI, 10, .inl (V_t_bn 2))), (A_p1_numbers, .inl (cI, 10, .inl f8)), ((A_t_bo 2), .inl (cI, 12, .inl (V_t_bo 2))), (A_p1_owners, .inl (cI, 12, .inl f9)), ((A_t_bc 2), .inl (cI, 63, .inl (V_t_bc 2))), (A_p1_cells, .inl (cI, 63, .inl f10))] := hD
          refine lv_aload_n hx hb dX1_takeBack_20 rfl (lv_at hl 1 rfl) ?_
          refine lv_dup hx hb dX1_takeBack_21 rfl ?_
          refine xget (ci := 1) (C := RX1) (T := TX1) (N := 3) (v := .int V_t_saved) hx hb hts in_X1_takeBack_X1 hown hK hP 0 rfl rfl 2 (by decide) wd_X1_takeBack_1 rfl dX1_takeBack_22 ?_
          refine lv_iconst (v := 1) hx hb dX1_takeBack_25 (by decide) ?_
          refine lv_isub hx hb dX1_takeBack_26 ?_
          refine xput (ci := 1) (C := RX1) (T := TX1) (N := 3) (ty := .int) (v := .int (V_t_saved - 1)) (ws2 := [(A_t, .inr (1, [.ref A_t_boards, .int V_t_oldest, .int (V_t_saved - 1)])), (A_t_boards, .inl (cB, 6, .inr (.inr (.inr (.inr (fun j => some (A_t_b j))))))), ((A_t_b 0), .inr (0, [.ref (A_t_bn 0), .ref (A_t_bo 0), .ref (A_t_bc 0)])), ((A_t_b 1), .inr (0, [.ref (A_t_bn 1), .ref (A_t_bo 1), .ref (A_t_bc 1)])), ((A_t_b 3), .inr (0, [.ref (A_t_bn 3), .ref (A_t_bo 3), .ref (A_t_bc 3)])), ((A_t_b 4), .inr (0, [.ref (A_t_bn 4), .ref (A_t_bo 4), .ref (A_t_bc 4)])), ((A_t_b 5), .inr (0, [.ref (A_t_bn 5), .ref (A_t_bo 5), .ref (A_t_bc 5)])), ((A_t_bn 0), .inl (cI, 10, .inl (V_t_bn 0))), ((A_t_bn 1), .inl (cI, 10, .inl (V_t_bn 1))), ((A_t_bn 3), .inl (cI, 10, .inl (V_t_bn 3))), ((A_t_bn 4), .inl (cI, 10, .inl (V_t_bn 4))), ((A_t_bn 5), .inl (cI, 10, .inl (V_t_bn 5))), ((A_t_bo 0), .inl (cI, 12, .inl (V_t_bo 0))), ((A_t_bo 1), .inl (cI, 12, .inl (V_t_bo 1))), ((A_t_bo 3), .inl (cI, 12, .inl (V_t_bo 3))), ((A_t_bo 4), .inl (cI, 12, .inl (V_t_bo 4))), ((A_t_bo 5), .inl (cI, 12, .inl (V_t_bo 5))), ((A_t_bc 0), .inl (cI, 63, .inl (V_t_bc 0))), ((A_t_bc 1), .inl (cI, 63, .inl (V_t_bc 1))), ((A_t_bc 3), .inl (cI, 63, .inl (V_t_bc 3))), ((A_t_bc 4), .inl (cI, 63, .inl (V_t_bc 4))), ((A_t_bc 5), .inl (cI, 63, .inl (V_t_bc 5))), (A_p1, .inr (0, [.ref A_p1_numbers, .ref A_p1_owners, .ref A_p1_cells])), ((A_t_b 2), .inr (0, [.ref (A_t_bn 2), .ref (A_t_bo 2), .ref (A_t_bc 2)])), ((A_t_bn 2), .inl (cI, 10, .inl (V_t_bn 2))), (A_p1_numbers, .inl (cI, 10, .inl f8)), ((A_t_bo 2), .inl (cI, 12, .inl (V_t_bo 2))), (A_p1_owners, .inl (cI, 12, .inl f9)), ((A_t_bc 2), .inl (cI, 63, .inl (V_t_bc 2))), (A_p1_cells, .inl (cI, 63, .inl f10))]) hx hb hts in_X1_takeBack_X1 tyX1 tyX1_ok nmX1 hown hK hP hD hS 0 rfl rfl 2 (by decide) wd_X1_takeBack_1 rfl (by decide +kernel) rfl rfl (Nat.le_of_ble_eq_true rfl) rfl dX1_takeBack_27 (fun H locs hP hD hS => ?_)
          exact fin _ (Option.some.inj hg) _ _ _ _ dX1_takeBack_30 (hP.sub [0, 1, 2, 3, 23, 4, 5, 6, 7, 8, 24, 9, 10, 11, 12, 13, 26, 14, 15, 16, 17, 18, 28, 19, 20, 21, 22, 25, 27, 29] rfl) (hD.sub [0, 1, 2, 3, 23, 4, 5, 6, 7, 8, 24, 9, 10, 11, 12, 13, 26, 14, 15, 16, 17, 18, 28, 19, 20, 21, 22, 25, 27, 29] (by decide) rfl) hS
        · replace hg := if_no hg hk2
          by_cases hk3 : v1 = 3
          · replace hg := if_yes hg hk3
            rw [hk3, show va_rf (plq A_t_b 3) = .ref (A_t_b 3) from rfl]
            refine lv_astore_n (lv' := [(2, .ref (A_t_b 3)), (0, .ref A_t), (1, .ref A_p1)]) hx hb dX1_takeBack_10 rfl hl (by decide) rfl (fun ls hl => ?_)
            refine lv_aload_n hx hb dX1_takeBack_11 rfl (lv_at hl 0 rfl) ?_
            refine lv_ifnull hx hb dX1_takeBack_12 ?_
            refine lv_aload_n hx hb dX1_takeBack_15 rfl (lv_at hl 2 rfl) ?_
            refine lv_aload_n hx hb dX1_takeBack_16 rfl (lv_at hl 0 rfl) ?_
            obtain ⟨f11, f12, f13, hq, hg⟩ := b3_ex hg
            refine callWVv (As := [.ref (A_t_b 3)]) (rest := []) (wr := [(A_t, .inr (1, [.ref A_t_boards, .int V_t_oldest, .int V_t_saved])), (A_t_boards, .inl (cB, 6, .inr (.inr (.inr (.inr (fun j => some (A_t_b j))))))), ((A_t_b 0), .inr (0, [.ref (A_t_bn 0), .ref (A_t_bo 0), .ref (A_t_bc 0)])), ((A_t_b 1), .inr (0, [.ref (A_t_bn 1), .ref (A_t_bo 1), .ref (A_t_bc 1)])), ((A_t_b 2), .inr (0, [.ref (A_t_bn 2), .ref (A_t_bo 2), .ref (A_t_bc 2)])), ((A_t_b 4), .inr (0, [.ref (A_t_bn 4), .ref (A_t_bo 4), .ref (A_t_bc 4)])), ((A_t_b 5), .inr (0, [.ref (A_t_bn 5), .ref (A_t_bo 5), .ref (A_t_bc 5)])), ((A_t_bn 0), .inl (cI, 10, .inl (V_t_bn 0))), ((A_t_bn 1), .inl (cI, 10, .inl (V_t_bn 1))), ((A_t_bn 2), .inl (cI, 10, .inl (V_t_bn 2))), ((A_t_bn 4), .inl (cI, 10, .inl (V_t_bn 4))), ((A_t_bn 5), .inl (cI, 10, .inl (V_t_bn 5))), ((A_t_bo 0), .inl (cI, 12, .inl (V_t_bo 0))), ((A_t_bo 1), .inl (cI, 12, .inl (V_t_bo 1))), ((A_t_bo 2), .inl (cI, 12, .inl (V_t_bo 2))), ((A_t_bo 4), .inl (cI, 12, .inl (V_t_bo 4))), ((A_t_bo 5), .inl (cI, 12, .inl (V_t_bo 5))), ((A_t_bc 0), .inl (cI, 63, .inl (V_t_bc 0))), ((A_t_bc 1), .inl (cI, 63, .inl (V_t_bc 1))), ((A_t_bc 2), .inl (cI, 63, .inl (V_t_bc 2))), ((A_t_bc 4), .inl (cI, 63, .inl (V_t_bc 4))), ((A_t_bc 5), .inl (cI, 63, .inl (V_t_bc 5)))]) S hK hP hD hS hA (c_X0_copyFrom l D cI cZ cB cJ A_p1 A_p1_numbers A_p1_owners A_p1_cells (A_t_b 3) (A_t_bn 3) (A_t_bo 3) (A_t_bc 3) _ (V_t_bn 3) V_p1_numbers (V_t_bo 3) V_p1_owners (V_t_bc 3) V_p1_cells f11 f12 f13 hq) [26, 5, 11, 27, 17, 28, 23, 29] [0, 1, 2, 3, 4, 6, 7, 8, 9, 10, 12, 13, 14, 15, 16, 18, 19, 20, 21, 22, 24, 25] rfl rfl (by decide +kernel) (by decide +kernel) (by decide +kernel) (cwV 1 hts gX1_takeBack_X0_copyFrom rfl rfl rfl hd_X0_copyFrom ⟨Nat.le_of_ble_eq_true rfl, Nat.le_of_ble_eq_true rfl⟩) rfl rfl rfl hl.1 rfl (Nat.le_of_ble_eq_true rfl) dX1_takeBack_17 ⟨Nat.zero_le _, Nat.zero_le _⟩ (fun H locs hP hD hS => ?_)
            replace hP : va_P D vwCl [(A_t, .inr (1, [.ref A_t_boards, .int V_t_oldest, .int V_t_saved])), (A_t_boards, .inl (cB, 6, .inr (.inr (.inr (.inr (fun j => some (A_t_b j))))))), ((A_t_b 0), .inr (0, [.ref (A_t_bn 0), .ref (A_t_bo 0), .ref (A_t_bc 0)])), ((A_t_b 1), .inr (0, [.ref (A_t_bn 1), .ref (A_t_bo 1), .ref (A_t_bc 1)])), ((A_t_b 2), .inr (0, [.ref (A_t_bn 2), .ref (A_t_bo 2), .ref (A_t_bc 2)])), ((A_t_b 4), .inr (0, [.ref (A_t_bn 4), .ref (A_t_bo 4), .ref (A_t_bc 4)])), ((A_t_b 5), .inr (0, [.ref (A_t_bn 5), .ref (A_t_bo 5), .ref (A_t_bc 5)])), ((A_t_bn 0), .inl (cI, 10, .inl (V_t_bn 0))), ((A_t_bn 1), .inl (cI, 10, .inl (V_t_bn 1))), ((A_t_bn 2), .inl (cI, 10, .inl (V_t_bn 2))), ((A_t_bn 4), .inl (cI, 10, .inl (V_t_bn 4))), ((A_t_bn 5), .inl (cI, 10, .inl (V_t_bn 5))), ((A_t_bo 0), .inl (cI, 12, .inl (V_t_bo 0))), ((A_t_bo 1), .inl (cI, 12, .inl (V_t_bo 1))), ((A_t_bo 2), .inl (cI, 12, .inl (V_t_bo 2))), ((A_t_bo 4), .inl (cI, 12, .inl (V_t_bo 4))), ((A_t_bo 5), .inl (cI, 12, .inl (V_t_bo 5))), ((A_t_bc 0), .inl (cI, 63, .inl (V_t_bc 0))), ((A_t_bc 1), .inl (cI, 63, .inl (V_t_bc 1))), ((A_t_bc 2), .inl (cI, 63, .inl (V_t_bc 2))), ((A_t_bc 4), .inl (cI, 63, .inl (V_t_bc 4))), ((A_t_bc 5), .inl (cI, 63, .inl (V_t_bc 5))), (A_p1, .inr (0, [.ref A_p1_numbers, .ref A_p1_owners, .ref A_p1_cells])), ((A_t_b 3), .inr (0, [.ref (A_t_bn 3), .ref (A_t_bo 3), .ref (A_t_bc 3)])), ((A_t_bn 3), .inl (cI, 10, .inl (V_t_bn 3))), (A_p1_numbers, .inl (cI, 10, .inl f11)), ((A_t_bo 3), .inl (cI, 12, .inl (V_t_bo 3))), (A_p1_owners, .inl (cI, 12, .inl f12)), ((A_t_bc 3), .inl (cI, 63, .inl (V_t_bc 3))), (A_p1_cells, .inl (cI, 63, .inl f13))] H := hP
            replace hD : va_D A [(A_t, .inr (1, [.ref A_t_boards, .int V_t_oldest, .int V_t_saved])), (A_t_boards, .inl (cB, 6, .inr (.inr (.inr (.inr (fun j => some (A_t_b j))))))), ((A_t_b 0), .inr (0, [.ref (A_t_bn 0), .ref (A_t_bo 0), .ref (A_t_bc 0)])), ((A_t_b 1), .inr (0, [.ref (A_t_bn 1), .ref (A_t_bo 1), .ref (A_t_bc 1)])), ((A_t_b 2), .inr (0, [.ref (A_t_bn 2), .ref (A_t_bo 2), .ref (A_t_bc 2)])), ((A_t_b 4), .inr (0, [.ref (A_t_bn 4), .ref (A_t_bo 4), .ref (A_t_bc 4)])), ((A_t_b 5), .inr (0, [.ref (A_t_bn 5), .ref (A_t_bo 5), .ref (A_t_bc 5)])), ((A_t_bn 0), .inl (cI, 10, .inl (V_t_bn 0))), ((A_t_bn 1), .inl (cI, 10, .inl (V_t_bn 1))), ((A_t_bn 2), .inl (cI, 10, .inl (V_t_bn 2))), ((A_t_bn 4), .inl (cI, 10, .inl (V_t_bn 4))), ((A_t_bn 5), .inl (cI, 10, .inl (V_t_bn 5))), ((A_t_bo 0), .inl (cI, 12, .inl (V_t_bo 0))), ((A_t_bo 1), .inl (cI, 12, .inl (V_t_bo 1))), ((A_t_bo 2), .inl (cI, 12, .inl (V_t_bo 2))), ((A_t_bo 4), .inl (cI, 12, .inl (V_t_bo 4))), ((A_t_bo 5), .inl (cI, 12, .inl (V_t_bo 5))), ((A_t_bc 0), .inl (cI, 63, .inl (V_t_bc 0))), ((A_t_bc 1), .inl (cI, 63, .inl (V_t_bc 1))), ((A_t_bc 2), .inl (cI, 63, .inl (V_t_bc 2))), ((A_t_bc 4), .inl (cI, 63, .inl (V_t_bc 4))), ((A_t_bc 5), .inl (cI, 63, .inl (V_t_bc 5))), (A_p1, .inr (0, [.ref A_p1_numbers, .ref A_p1_owners, .ref A_p1_cells])), ((A_t_b 3), .inr (0, [.ref (A_t_bn 3), .ref (A_t_bo 3), .ref (A_t_bc 3)])), ((A_t_bn 3), .inl (cI, 10, .inl (V_t_bn 3))), (A_p1_numbers, .inl (cI, 10, .inl f11)), ((A_t_bo 3), .inl (cI, 12, .inl (V_t_bo 3))), (A_p1_owners, .inl (cI, 12, .inl f12)), ((A_t_bc 3), .inl (cI, 63, .inl (V_t_bc 3))), (A_p1_cells, .inl (cI, 63, .inl f13))] := hD
            refine lv_aload_n hx hb dX1_takeBack_20 rfl (lv_at hl 1 rfl) ?_
            refine lv_dup hx hb dX1_takeBack_21 rfl ?_
            refine xget (ci := 1) (C := RX1) (T := TX1) (N := 3) (v := .int V_t_saved) hx hb hts in_X1_takeBack_X1 hown hK hP 0 rfl rfl 2 (by decide) wd_X1_takeBack_1 rfl dX1_takeBack_22 ?_
            refine lv_iconst (v := 1) hx hb dX1_takeBack_25 (by decide) ?_
            refine lv_isub hx hb dX1_takeBack_26 ?_
            refine xput (ci := 1) (C := RX1) (T := TX1) (N := 3) (ty := .int) (v := .int (V_t_saved - 1)) (ws2 := [(A_t, .inr (1, [.ref A_t_boards, .int V_t_oldest, .int (V_t_saved - 1)])), (A_t_boards, .inl (cB, 6, .inr (.inr (.inr (.inr (fun j => some (A_t_b j))))))), ((A_t_b 0), .inr (0, [.ref (A_t_bn 0), .ref (A_t_bo 0), .ref (A_t_bc 0)])), ((A_t_b 1), .inr (0, [.ref (A_t_bn 1), .ref (A_t_bo 1), .ref (A_t_bc 1)])), ((A_t_b 2), .inr (0, [.ref (A_t_bn 2), .ref (A_t_bo 2), .ref (A_t_bc 2)])), ((A_t_b 4), .inr (0, [.ref (A_t_bn 4), .ref (A_t_bo 4), .ref (A_t_bc 4)])), ((A_t_b 5), .inr (0, [.ref (A_t_bn 5), .ref (A_t_bo 5), .ref (A_t_bc 5)])), ((A_t_bn 0), .inl (cI, 10, .inl (V_t_bn 0))), ((A_t_bn 1), .inl (cI, 10, .inl (V_t_bn 1))), ((A_t_bn 2), .inl (cI, 10, .inl (V_t_bn 2))), ((A_t_bn 4), .inl (cI, 10, .inl (V_t_bn 4))), ((A_t_bn 5), .inl (cI, 10, .inl (V_t_bn 5))), ((A_t_bo 0), .inl (cI, 12, .inl (V_t_bo 0))), ((A_t_bo 1), .inl (cI, 12, .inl (V_t_bo 1))), ((A_t_bo 2), .inl (cI, 12, .inl (V_t_bo 2))), ((A_t_bo 4), .inl (cI, 12, .inl (V_t_bo 4))), ((A_t_bo 5), .inl (cI, 12, .inl (V_t_bo 5))), ((A_t_bc 0), .inl (cI, 63, .inl (V_t_bc 0))), ((A_t_bc 1), .inl (cI, 63, .inl (V_t_bc 1))), ((A_t_bc 2), .inl (cI, 63, .inl (V_t_bc 2))), ((A_t_bc 4), .inl (cI, 63, .inl (V_t_bc 4))), ((A_t_bc 5), .inl (cI, 63, .inl (V_t_bc 5))), (A_p1, .inr (0, [.ref A_p1_numbers, .ref A_p1_owners, .ref A_p1_cells])), ((A_t_b 3), .inr (0, [.ref (A_t_bn 3), .ref (A_t_bo 3), .ref (A_t_bc 3)])), ((A_t_bn 3), .inl (cI, 10, .inl (V_t_bn 3))), (A_p1_numbers, .inl (cI, 10, .inl f11)), ((A_t_bo 3), .inl (cI, 12, .inl (V_t_bo 3))), (A_p1_owners, .inl (cI, 12, .inl f12)), ((A_t_bc 3), .inl (cI, 63, .inl (V_t_bc 3))), (A_p1_cells, .inl (cI, 63, .inl f13))]) hx hb hts in_X1_takeBack_X1 tyX1 tyX1_ok nmX1 hown hK hP hD hS 0 rfl rfl 2 (by decide) wd_X1_takeBack_1 rfl (by decide +kernel) rfl rfl (Nat.le_of_ble_eq_true rfl) rfl dX1_takeBack_27 (fun H locs hP hD hS => ?_)
            exact fin _ (Option.some.inj hg) _ _ _ _ dX1_takeBack_30 (hP.sub [0, 1, 2, 3, 4, 23, 5, 6, 7, 8, 9, 24, 10, 11, 12, 13, 14, 26, 15, 16, 17, 18, 19, 28, 20, 21, 22, 25, 27, 29] rfl) (hD.sub [0, 1, 2, 3, 4, 23, 5, 6, 7, 8, 9, 24, 10, 11, 12, 13, 14, 26, 15, 16, 17, 18, 19, 28, 20, 21, 22, 25, 27, 29] (by decide) rfl) hS
          · replace hg := if_no hg hk3
            by_cases hk4 : v1 = 4
            · replace hg := if_yes hg hk4
              rw [hk4, show va_rf (plq A_t_b 4) = .ref (A_t_b 4) from rfl]
              refine lv_astore_n (lv' := [(2, .ref (A_t_b 4)), (0, .ref A_t), (1, .ref A_p1)]) hx hb dX1_takeBack_10 rfl hl (by decide) rfl (fun ls hl => ?_)
              refine lv_aload_n hx hb dX1_takeBack_11 rfl (lv_at hl 0 rfl) ?_
              refine lv_ifnull hx hb dX1_takeBack_12 ?_
              refine lv_aload_n hx hb dX1_takeBack_15 rfl (lv_at hl 2 rfl) ?_
              refine lv_aload_n hx hb dX1_takeBack_16 rfl (lv_at hl 0 rfl) ?_
              obtain ⟨f14, f15, f16, hq, hg⟩ := b3_ex hg
              refine callWVv (As := [.ref (A_t_b 4)]) (rest := []) (wr := [(A_t, .inr (1, [.ref A_t_boards, .int V_t_oldest, .int V_t_saved])), (A_t_boards, .inl (cB, 6, .inr (.inr (.inr (.inr (fun j => some (A_t_b j))))))), ((A_t_b 0), .inr (0, [.ref (A_t_bn 0), .ref (A_t_bo 0), .ref (A_t_bc 0)])), ((A_t_b 1), .inr (0, [.ref (A_t_bn 1), .ref (A_t_bo 1), .ref (A_t_bc 1)])), ((A_t_b 2), .inr (0, [.ref (A_t_bn 2), .ref (A_t_bo 2), .ref (A_t_bc 2)])), ((A_t_b 3), .inr (0, [.ref (A_t_bn 3), .ref (A_t_bo 3), .ref (A_t_bc 3)])), ((A_t_b 5), .inr (0, [.ref (A_t_bn 5), .ref (A_t_bo 5), .ref (A_t_bc 5)])), ((A_t_bn 0), .inl (cI, 10, .inl (V_t_bn 0))), ((A_t_bn 1), .inl (cI, 10, .inl (V_t_bn 1))), ((A_t_bn 2), .inl (cI, 10, .inl (V_t_bn 2))), ((A_t_bn 3), .inl (cI, 10, .inl (V_t_bn 3))), ((A_t_bn 5), .inl (cI, 10, .inl (V_t_bn 5))), ((A_t_bo 0), .inl (cI, 12, .inl (V_t_bo 0))), ((A_t_bo 1), .inl (cI, 12, .inl (V_t_bo 1))), ((A_t_bo 2), .inl (cI, 12, .inl (V_t_bo 2))), ((A_t_bo 3), .inl (cI, 12, .inl (V_t_bo 3))), ((A_t_bo 5), .inl (cI, 12, .inl (V_t_bo 5))), ((A_t_bc 0), .inl (cI, 63, .inl (V_t_bc 0))), ((A_t_bc 1), .inl (cI, 63, .inl (V_t_bc 1))), ((A_t_bc 2), .inl (cI, 63, .inl (V_t_bc 2))), ((A_t_bc 3), .inl (cI, 63, .inl (V_t_bc 3))), ((A_t_bc 5), .inl (cI, 63, .inl (V_t_bc 5)))]) S hK hP hD hS hA (c_X0_copyFrom l D cI cZ cB cJ A_p1 A_p1_numbers A_p1_owners A_p1_cells (A_t_b 4) (A_t_bn 4) (A_t_bo 4) (A_t_bc 4) _ (V_t_bn 4) V_p1_numbers (V_t_bo 4) V_p1_owners (V_t_bc 4) V_p1_cells f14 f15 f16 hq) [26, 6, 12, 27, 18, 28, 24, 29] [0, 1, 2, 3, 4, 5, 7, 8, 9, 10, 11, 13, 14, 15, 16, 17, 19, 20, 21, 22, 23, 25] rfl rfl (by decide +kernel) (by decide +kernel) (by decide +kernel) (cwV 1 hts gX1_takeBack_X0_copyFrom rfl rfl rfl hd_X0_copyFrom ⟨Nat.le_of_ble_eq_true rfl, Nat.le_of_ble_eq_true rfl⟩) rfl rfl rfl hl.1 rfl (Nat.le_of_ble_eq_true rfl) dX1_takeBack_17 ⟨Nat.zero_le _, Nat.zero_le _⟩ (fun H locs hP hD hS => ?_)
              replace hP : va_P D vwCl [(A_t, .inr (1, [.ref A_t_boards, .int V_t_oldest, .int V_t_saved])), (A_t_boards, .inl (cB, 6, .inr (.inr (.inr (.inr (fun j => some (A_t_b j))))))), ((A_t_b 0), .inr (0, [.ref (A_t_bn 0), .ref (A_t_bo 0), .ref (A_t_bc 0)])), ((A_t_b 1), .inr (0, [.ref (A_t_bn 1), .ref (A_t_bo 1), .ref (A_t_bc 1)])), ((A_t_b 2), .inr (0, [.ref (A_t_bn 2), .ref (A_t_bo 2), .ref (A_t_bc 2)])), ((A_t_b 3), .inr (0, [.ref (A_t_bn 3), .ref (A_t_bo 3), .ref (A_t_bc 3)])), ((A_t_b 5), .inr (0, [.ref (A_t_bn 5), .ref (A_t_bo 5), .ref (A_t_bc 5)])), ((A_t_bn 0), .inl (cI, 10, .inl (V_t_bn 0))), ((A_t_bn 1), .inl (cI, 10, .inl (V_t_bn 1))), ((A_t_bn 2), .inl (cI, 10, .inl (V_t_bn 2))), ((A_t_bn 3), .inl (cI, 10, .inl (V_t_bn 3))), ((A_t_bn 5), .inl (cI, 10, .inl (V_t_bn 5))), ((A_t_bo 0), .inl (cI, 12, .inl (V_t_bo 0))), ((A_t_bo 1), .inl (cI, 12, .inl (V_t_bo 1))), ((A_t_bo 2), .inl (cI, 12, .inl (V_t_bo 2))), ((A_t_bo 3), .inl (cI, 12, .inl (V_t_bo 3))), ((A_t_bo 5), .inl (cI, 12, .inl (V_t_bo 5))), ((A_t_bc 0), .inl (cI, 63, .inl (V_t_bc 0))), ((A_t_bc 1), .inl (cI, 63, .inl (V_t_bc 1))), ((A_t_bc 2), .inl (cI, 63, .inl (V_t_bc 2))), ((A_t_bc 3), .inl (cI, 63, .inl (V_t_bc 3))), ((A_t_bc 5), .inl (cI, 63, .inl (V_t_bc 5))), (A_p1, .inr (0, [.ref A_p1_numbers, .ref A_p1_owners, .ref A_p1_cells])), ((A_t_b 4), .inr (0, [.ref (A_t_bn 4), .ref (A_t_bo 4), .ref (A_t_bc 4)])), ((A_t_bn 4), .inl (cI, 10, .inl (V_t_bn 4))), (A_p1_numbers, .inl (cI, 10, .inl f14)), ((A_t_bo 4), .inl (cI, 12, .inl (V_t_bo 4))), (A_p1_owners, .inl (cI, 12, .inl f15)), ((A_t_bc 4), .inl (cI, 63, .inl (V_t_bc 4))), (A_p1_cells, .inl (cI, 63, .inl f16))] H := hP
              replace hD : va_D A [(A_t, .inr (1, [.ref A_t_boards, .int V_t_oldest, .int V_t_saved])), (A_t_boards, .inl (cB, 6, .inr (.inr (.inr (.inr (fun j => some (A_t_b j))))))), ((A_t_b 0), .inr (0, [.ref (A_t_bn 0), .ref (A_t_bo 0), .ref (A_t_bc 0)])), ((A_t_b 1), .inr (0, [.ref (A_t_bn 1), .ref (A_t_bo 1), .ref (A_t_bc 1)])), ((A_t_b 2), .inr (0, [.ref (A_t_bn 2), .ref (A_t_bo 2), .ref (A_t_bc 2)])), ((A_t_b 3), .inr (0, [.ref (A_t_bn 3), .ref (A_t_bo 3), .ref (A_t_bc 3)])), ((A_t_b 5), .inr (0, [.ref (A_t_bn 5), .ref (A_t_bo 5), .ref (A_t_bc 5)])), ((A_t_bn 0), .inl (cI, 10, .inl (V_t_bn 0))), ((A_t_bn 1), .inl (cI, 10, .inl (V_t_bn 1))), ((A_t_bn 2), .inl (cI, 10, .inl (V_t_bn 2))), ((A_t_bn 3), .inl (cI, 10, .inl (V_t_bn 3))), ((A_t_bn 5), .inl (cI, 10, .inl (V_t_bn 5))), ((A_t_bo 0), .inl (cI, 12, .inl (V_t_bo 0))), ((A_t_bo 1), .inl (cI, 12, .inl (V_t_bo 1))), ((A_t_bo 2), .inl (cI, 12, .inl (V_t_bo 2))), ((A_t_bo 3), .inl (cI, 12, .inl (V_t_bo 3))), ((A_t_bo 5), .inl (cI, 12, .inl (V_t_bo 5))), ((A_t_bc 0), .inl (cI, 63, .inl (V_t_bc 0))), ((A_t_bc 1), .inl (cI, 63, .inl (V_t_bc 1))), ((A_t_bc 2), .inl (cI, 63, .inl (V_t_bc 2))), ((A_t_bc 3), .inl (cI, 63, .inl (V_t_bc 3))), ((A_t_bc 5), .inl (cI, 63, .inl (V_t_bc 5))), (A_p1, .inr (0, [.ref A_p1_numbers, .ref A_p1_owners, .ref A_p1_cells])), ((A_t_b 4), .inr (0, [.ref (A_t_bn 4), .ref (A_t_bo 4), .ref (A_t_bc 4)])), ((A_t_bn 4), .inl (cI, 10, .inl (V_t_bn 4))), (A_p1_numbers, .inl (cI, 10, .inl f14)), ((A_t_bo 4), .inl (cI, 12, .inl (V_t_bo 4))), (A_p1_owners, .inl (cI, 12, .inl f15)), ((A_t_bc 4), .inl (cI, 63, .inl (V_t_bc 4))), (A_p1_cells, .inl (cI, 63, .inl f16))] := hD
              refine lv_aload_n hx hb dX1_takeBack_20 rfl (lv_at hl 1 rfl) ?_
              refine lv_dup hx hb dX1_takeBack_21 rfl ?_
              refine xget (ci := 1) (C := RX1) (T := TX1) (N := 3) (v := .int V_t_saved) hx hb hts in_X1_takeBack_X1 hown hK hP 0 rfl rfl 2 (by decide) wd_X1_takeBack_1 rfl dX1_takeBack_22 ?_
              refine lv_iconst (v := 1) hx hb dX1_takeBack_25 (by decide) ?_
              refine lv_isub hx hb dX1_takeBack_26 ?_
              refine xput (ci := 1) (C := RX1) (T := TX1) (N := 3) (ty := .int) (v := .int (V_t_saved - 1)) (ws2 := [(A_t, .inr (1, [.ref A_t_boards, .int V_t_oldest, .int (V_t_saved - 1)])), (A_t_boards, .inl (cB, 6, .inr (.inr (.inr (.inr (fun j => some (A_t_b j))))))), ((A_t_b 0), .inr (0, [.ref (A_t_bn 0), .ref (A_t_bo 0), .ref (A_t_bc 0)])), ((A_t_b 1), .inr (0, [.ref (A_t_bn 1), .ref (A_t_bo 1), .ref (A_t_bc 1)])), ((A_t_b 2), .inr (0, [.ref (A_t_bn 2), .ref (A_t_bo 2), .ref (A_t_bc 2)])), ((A_t_b 3), .inr (0, [.ref (A_t_bn 3), .ref (A_t_bo 3), .ref (A_t_bc 3)])), ((A_t_b 5), .inr (0, [.ref (A_t_bn 5), .ref (A_t_bo 5), .ref (A_t_bc 5)])), ((A_t_bn 0), .inl (cI, 10, .inl (V_t_bn 0))), ((A_t_bn 1), .inl (cI, 10, .inl (V_t_bn 1))), ((A_t_bn 2), .inl (cI, 10, .inl (V_t_bn 2))), ((A_t_bn 3), .inl (cI, 10, .inl (V_t_bn 3))), ((A_t_bn 5), .inl (cI, 10, .inl (V_t_bn 5))), ((A_t_bo 0), .inl (cI, 12, .inl (V_t_bo 0))), ((A_t_bo 1), .inl (cI, 12, .inl (V_t_bo 1))), ((A_t_bo 2), .inl (cI, 12, .inl (V_t_bo 2))), ((A_t_bo 3), .inl (cI, 12, .inl (V_t_bo 3))), ((A_t_bo 5), .inl (cI, 12, .inl (V_t_bo 5))), ((A_t_bc 0), .inl (cI, 63, .inl (V_t_bc 0))), ((A_t_bc 1), .inl (cI, 63, .inl (V_t_bc 1))), ((A_t_bc 2), .inl (cI, 63, .inl (V_t_bc 2))), ((A_t_bc 3), .inl (cI, 63, .inl (V_t_bc 3))), ((A_t_bc 5), .inl (cI, 63, .inl (V_t_bc 5))), (A_p1, .inr (0, [.ref A_p1_numbers, .ref A_p1_owners, .ref A_p1_cells])), ((A_t_b 4), .inr (0, [.ref (A_t_bn 4), .ref (A_t_bo 4), .ref (A_t_bc 4)])), ((A_t_bn 4), .inl (cI, 10, .inl (V_t_bn 4))), (A_p1_numbers, .inl (cI, 10, .inl f14)), ((A_t_bo 4), .inl (cI, 12, .inl (V_t_bo 4))), (A_p1_owners, .inl (cI, 12, .inl f15)), ((A_t_bc 4), .inl (cI, 63, .inl (V_t_bc 4))), (A_p1_cells, .inl (cI, 63, .inl f16))]) hx hb hts in_X1_takeBack_X1 tyX1 tyX1_ok nmX1 hown hK hP hD hS 0 rfl rfl 2 (by decide) wd_X1_takeBack_1 rfl (by decide +kernel) rfl rfl (Nat.le_of_ble_eq_true rfl) rfl dX1_takeBack_27 (fun H locs hP hD hS => ?_)
              exact fin _ (Option.some.inj hg) _ _ _ _ dX1_takeBack_30 (hP.sub [0, 1, 2, 3, 4, 5, 23, 6, 7, 8, 9, 10, 24, 11, 12, 13, 14, 15, 26, 16, 17, 18, 19, 20, 28, 21, 22, 25, 27, 29] rfl) (hD.sub [0, 1, 2, 3, 4, 5, 23, 6, 7, 8, 9, 10, 24, 11, 12, 13, 14, 15, 26, 16, 17, 18, 19, 20, 28, 21, 22, 25, 27, 29] (by decide) rfl) hS
            · replace hg := if_no hg hk4
              by_cases hk5 : v1 = 5
              · replace hg := if_yes hg hk5
                rw [hk5, show va_rf (plq A_t_b 5) = .ref (A_t_b 5) from rfl]
                refine lv_astore_n (lv' := [(2, .ref (A_t_b 5)), (0, .ref A_t), (1, .ref A_p1)]) hx hb dX1_takeBack_10 rfl hl (by decide) rfl (fun ls hl => ?_)
                refine lv_aload_n hx hb dX1_takeBack_11 rfl (lv_at hl 0 rfl) ?_
                refine lv_ifnull hx hb dX1_takeBack_12 ?_
                refine lv_aload_n hx hb dX1_takeBack_15 rfl (lv_at hl 2 rfl) ?_
                refine lv_aload_n hx hb dX1_takeBack_16 rfl (lv_at hl 0 rfl) ?_
                obtain ⟨f17, f18, f19, hq, hg⟩ := b3_ex hg
                refine callWVv (As := [.ref (A_t_b 5)]) (rest := []) (wr := [(A_t, .inr (1, [.ref A_t_boards, .int V_t_oldest, .int V_t_saved])), (A_t_boards, .inl (cB, 6, .inr (.inr (.inr (.inr (fun j => some (A_t_b j))))))), ((A_t_b 0), .inr (0, [.ref (A_t_bn 0), .ref (A_t_bo 0), .ref (A_t_bc 0)])), ((A_t_b 1), .inr (0, [.ref (A_t_bn 1), .ref (A_t_bo 1), .ref (A_t_bc 1)])), ((A_t_b 2), .inr (0, [.ref (A_t_bn 2), .ref (A_t_bo 2), .ref (A_t_bc 2)])), ((A_t_b 3), .inr (0, [.ref (A_t_bn 3), .ref (A_t_bo 3), .ref (A_t_bc 3)])), ((A_t_b 4), .inr (0, [.ref (A_t_bn 4), .ref (A_t_bo 4), .ref (A_t_bc 4)])), ((A_t_bn 0), .inl (cI, 10, .inl (V_t_bn 0))), ((A_t_bn 1), .inl (cI, 10, .inl (V_t_bn 1))), ((A_t_bn 2), .inl (cI, 10, .inl (V_t_bn 2))), ((A_t_bn 3), .inl (cI, 10, .inl (V_t_bn 3))), ((A_t_bn 4), .inl (cI, 10, .inl (V_t_bn 4))), ((A_t_bo 0), .inl (cI, 12, .inl (V_t_bo 0))), ((A_t_bo 1), .inl (cI, 12, .inl (V_t_bo 1))), ((A_t_bo 2), .inl (cI, 12, .inl (V_t_bo 2))), ((A_t_bo 3), .inl (cI, 12, .inl (V_t_bo 3))), ((A_t_bo 4), .inl (cI, 12, .inl (V_t_bo 4))), ((A_t_bc 0), .inl (cI, 63, .inl (V_t_bc 0))), ((A_t_bc 1), .inl (cI, 63, .inl (V_t_bc 1))), ((A_t_bc 2), .inl (cI, 63, .inl (V_t_bc 2))), ((A_t_bc 3), .inl (cI, 63, .inl (V_t_bc 3))), ((A_t_bc 4), .inl (cI, 63, .inl (V_t_bc 4)))]) S hK hP hD hS hA (c_X0_copyFrom l D cI cZ cB cJ A_p1 A_p1_numbers A_p1_owners A_p1_cells (A_t_b 5) (A_t_bn 5) (A_t_bo 5) (A_t_bc 5) _ (V_t_bn 5) V_p1_numbers (V_t_bo 5) V_p1_owners (V_t_bc 5) V_p1_cells f17 f18 f19 hq) [26, 7, 13, 27, 19, 28, 25, 29] [0, 1, 2, 3, 4, 5, 6, 8, 9, 10, 11, 12, 14, 15, 16, 17, 18, 20, 21, 22, 23, 24] rfl rfl (by decide +kernel) (by decide +kernel) (by decide +kernel) (cwV 1 hts gX1_takeBack_X0_copyFrom rfl rfl rfl hd_X0_copyFrom ⟨Nat.le_of_ble_eq_true rfl, Nat.le_of_ble_eq_true rfl⟩) rfl rfl rfl hl.1 rfl (Nat.le_of_ble_eq_true rfl) dX1_takeBack_17 ⟨Nat.zero_le _, Nat.zero_le _⟩ (fun H locs hP hD hS => ?_)
                replace hP : va_P D vwCl [(A_t, .inr (1, [.ref A_t_boards, .int V_t_oldest, .int V_t_saved])), (A_t_boards, .inl (cB, 6, .inr (.inr (.inr (.inr (fun j => some (A_t_b j))))))), ((A_t_b 0), .inr (0, [.ref (A_t_bn 0), .ref (A_t_bo 0), .ref (A_t_bc 0)])), ((A_t_b 1), .inr (0, [.ref (A_t_bn 1), .ref (A_t_bo 1), .ref (A_t_bc 1)])), ((A_t_b 2), .inr (0, [.ref (A_t_bn 2), .ref (A_t_bo 2), .ref (A_t_bc 2)])), ((A_t_b 3), .inr (0, [.ref (A_t_bn 3), .ref (A_t_bo 3), .ref (A_t_bc 3)])), ((A_t_b 4), .inr (0, [.ref (A_t_bn 4), .ref (A_t_bo 4), .ref (A_t_bc 4)])), ((A_t_bn 0), .inl (cI, 10, .inl (V_t_bn 0))), ((A_t_bn 1), .inl (cI, 10, .inl (V_t_bn 1))), ((A_t_bn 2), .inl (cI, 10, .inl (V_t_bn 2))), ((A_t_bn 3), .inl (cI, 10, .inl (V_t_bn 3))), ((A_t_bn 4), .inl (cI, 10, .inl (V_t_bn 4))), ((A_t_bo 0), .inl (cI, 12, .inl (V_t_bo 0))), ((A_t_bo 1), .inl (cI, 12, .inl (V_t_bo 1))), ((A_t_bo 2), .inl (cI, 12, .inl (V_t_bo 2))), ((A_t_bo 3), .inl (cI, 12, .inl (V_t_bo 3))), ((A_t_bo 4), .inl (cI, 12, .inl (V_t_bo 4))), ((A_t_bc 0), .inl (cI, 63, .inl (V_t_bc 0))), ((A_t_bc 1), .inl (cI, 63, .inl (V_t_bc 1))), ((A_t_bc 2), .inl (cI, 63, .inl (V_t_bc 2))), ((A_t_bc 3), .inl (cI, 63, .inl (V_t_bc 3))), ((A_t_bc 4), .inl (cI, 63, .inl (V_t_bc 4))), (A_p1, .inr (0, [.ref A_p1_numbers, .ref A_p1_owners, .ref A_p1_cells])), ((A_t_b 5), .inr (0, [.ref (A_t_bn 5), .ref (A_t_bo 5), .ref (A_t_bc 5)])), ((A_t_bn 5), .inl (cI, 10, .inl (V_t_bn 5))), (A_p1_numbers, .inl (cI, 10, .inl f17)), ((A_t_bo 5), .inl (cI, 12, .inl (V_t_bo 5))), (A_p1_owners, .inl (cI, 12, .inl f18)), ((A_t_bc 5), .inl (cI, 63, .inl (V_t_bc 5))), (A_p1_cells, .inl (cI, 63, .inl f19))] H := hP
                replace hD : va_D A [(A_t, .inr (1, [.ref A_t_boards, .int V_t_oldest, .int V_t_saved])), (A_t_boards, .inl (cB, 6, .inr (.inr (.inr (.inr (fun j => some (A_t_b j))))))), ((A_t_b 0), .inr (0, [.ref (A_t_bn 0), .ref (A_t_bo 0), .ref (A_t_bc 0)])), ((A_t_b 1), .inr (0, [.ref (A_t_bn 1), .ref (A_t_bo 1), .ref (A_t_bc 1)])), ((A_t_b 2), .inr (0, [.ref (A_t_bn 2), .ref (A_t_bo 2), .ref (A_t_bc 2)])), ((A_t_b 3), .inr (0, [.ref (A_t_bn 3), .ref (A_t_bo 3), .ref (A_t_bc 3)])), ((A_t_b 4), .inr (0, [.ref (A_t_bn 4), .ref (A_t_bo 4), .ref (A_t_bc 4)])), ((A_t_bn 0), .inl (cI, 10, .inl (V_t_bn 0))), ((A_t_bn 1), .inl (cI, 10, .inl (V_t_bn 1))), ((A_t_bn 2), .inl (cI, 10, .inl (V_t_bn 2))), ((A_t_bn 3), .inl (cI, 10, .inl (V_t_bn 3))), ((A_t_bn 4), .inl (cI, 10, .inl (V_t_bn 4))), ((A_t_bo 0), .inl (cI, 12, .inl (V_t_bo 0))), ((A_t_bo 1), .inl (cI, 12, .inl (V_t_bo 1))), ((A_t_bo 2), .inl (cI, 12, .inl (V_t_bo 2))), ((A_t_bo 3), .inl (cI, 12, .inl (V_t_bo 3))), ((A_t_bo 4), .inl (cI, 12, .inl (V_t_bo 4))), ((A_t_bc 0), .inl (cI, 63, .inl (V_t_bc 0))), ((A_t_bc 1), .inl (cI, 63, .inl (V_t_bc 1))), ((A_t_bc 2), .inl (cI, 63, .inl (V_t_bc 2))), ((A_t_bc 3), .inl (cI, 63, .inl (V_t_bc 3))), ((A_t_bc 4), .inl (cI, 63, .inl (V_t_bc 4))), (A_p1, .inr (0, [.ref A_p1_numbers, .ref A_p1_owners, .ref A_p1_cells])), ((A_t_b 5), .inr (0, [.ref (A_t_bn 5), .ref (A_t_bo 5), .ref (A_t_bc 5)])), ((A_t_bn 5), .inl (cI, 10, .inl (V_t_bn 5))), (A_p1_numbers, .inl (cI, 10, .inl f17)), ((A_t_bo 5), .inl (cI, 12, .inl (V_t_bo 5))), (A_p1_owners, .inl (cI, 12, .inl f18)), ((A_t_bc 5), .inl (cI, 63, .inl (V_t_bc 5))), (A_p1_cells, .inl (cI, 63, .inl f19))] := hD
                refine lv_aload_n hx hb dX1_takeBack_20 rfl (lv_at hl 1 rfl) ?_
                refine lv_dup hx hb dX1_takeBack_21 rfl ?_
                refine xget (ci := 1) (C := RX1) (T := TX1) (N := 3) (v := .int V_t_saved) hx hb hts in_X1_takeBack_X1 hown hK hP 0 rfl rfl 2 (by decide) wd_X1_takeBack_1 rfl dX1_takeBack_22 ?_
                refine lv_iconst (v := 1) hx hb dX1_takeBack_25 (by decide) ?_
                refine lv_isub hx hb dX1_takeBack_26 ?_
                refine xput (ci := 1) (C := RX1) (T := TX1) (N := 3) (ty := .int) (v := .int (V_t_saved - 1)) (ws2 := [(A_t, .inr (1, [.ref A_t_boards, .int V_t_oldest, .int (V_t_saved - 1)])), (A_t_boards, .inl (cB, 6, .inr (.inr (.inr (.inr (fun j => some (A_t_b j))))))), ((A_t_b 0), .inr (0, [.ref (A_t_bn 0), .ref (A_t_bo 0), .ref (A_t_bc 0)])), ((A_t_b 1), .inr (0, [.ref (A_t_bn 1), .ref (A_t_bo 1), .ref (A_t_bc 1)])), ((A_t_b 2), .inr (0, [.ref (A_t_bn 2), .ref (A_t_bo 2), .ref (A_t_bc 2)])), ((A_t_b 3), .inr (0, [.ref (A_t_bn 3), .ref (A_t_bo 3), .ref (A_t_bc 3)])), ((A_t_b 4), .inr (0, [.ref (A_t_bn 4), .ref (A_t_bo 4), .ref (A_t_bc 4)])), ((A_t_bn 0), .inl (cI, 10, .inl (V_t_bn 0))), ((A_t_bn 1), .inl (cI, 10, .inl (V_t_bn 1))), ((A_t_bn 2), .inl (cI, 10, .inl (V_t_bn 2))), ((A_t_bn 3), .inl (cI, 10, .inl (V_t_bn 3))), ((A_t_bn 4), .inl (cI, 10, .inl (V_t_bn 4))), ((A_t_bo 0), .inl (cI, 12, .inl (V_t_bo 0))), ((A_t_bo 1), .inl (cI, 12, .inl (V_t_bo 1))), ((A_t_bo 2), .inl (cI, 12, .inl (V_t_bo 2))), ((A_t_bo 3), .inl (cI, 12, .inl (V_t_bo 3))), ((A_t_bo 4), .inl (cI, 12, .inl (V_t_bo 4))), ((A_t_bc 0), .inl (cI, 63, .inl (V_t_bc 0))), ((A_t_bc 1), .inl (cI, 63, .inl (V_t_bc 1))), ((A_t_bc 2), .inl (cI, 63, .inl (V_t_bc 2))), ((A_t_bc 3), .inl (cI, 63, .inl (V_t_bc 3))), ((A_t_bc 4), .inl (cI, 63, .inl (V_t_bc 4))), (A_p1, .inr (0, [.ref A_p1_numbers, .ref A_p1_owners, .ref A_p1_cells])), ((A_t_b 5), .inr (0, [.ref (A_t_bn 5), .ref (A_t_bo 5), .ref (A_t_bc 5)])), ((A_t_bn 5), .inl (cI, 10, .inl (V_t_bn 5))), (A_p1_numbers, .inl (cI, 10, .inl f17)), ((A_t_bo 5), .inl (cI, 12, .inl (V_t_bo 5))), (A_p1_owners, .inl (cI, 12, .inl f18)), ((A_t_bc 5), .inl (cI, 63, .inl (V_t_bc 5))), (A_p1_cells, .inl (cI, 63, .inl f19))]) hx hb hts in_X1_takeBack_X1 tyX1 tyX1_ok nmX1 hown hK hP hD hS 0 rfl rfl 2 (by decide) wd_X1_takeBack_1 rfl (by decide +kernel) rfl rfl (Nat.le_of_ble_eq_true rfl) rfl dX1_takeBack_27 (fun H locs hP hD hS => ?_)
                exact fin _ (Option.some.inj hg) _ _ _ _ dX1_takeBack_30 (hP.sub [0, 1, 2, 3, 4, 5, 6, 23, 7, 8, 9, 10, 11, 24, 12, 13, 14, 15, 16, 26, 17, 18, 19, 20, 21, 28, 22, 25, 27, 29] rfl) (hD.sub [0, 1, 2, 3, 4, 5, 6, 23, 7, 8, 9, 10, 11, 24, 12, 13, 14, 15, 16, 26, 17, 18, 19, 20, 21, 28, 22, 25, 27, 29] (by decide) rfl) hS
              · replace hg := if_no hg hk5
                exact no_some hg
theorem hd_X2_moves : yX2_moves.cls = RX2 ∧ yX2_moves.cls ≠ "java/lang/invoke/MethodHandle" ∧ yX2_moves.cls ≠ "java/lang/invoke/VarHandle" ∧ (parseMethodDescriptor yX2_moves.desc).map (fun d => d.parameters.length) = some 1 := by decide +kernel
theorem in_X2_moves_X2 : ∀ w ∈ u_ws RX2 TX2 8, w ∈ wsX2_moves := fun _ h => List.mem_cons_of_mem _ (List.mem_append_left _ (List.mem_append_right _ h))
theorem wd_X2_moves_1 : Cond.fieldLink RX2 12 "FogOrders$Opening" "board" "LFogOrders$Board;" ∈ wsX2_moves := List.mem_of_getElem? (i := 1) rfl
abbrev rX2_moves : Room := { frames := 1, cells := 0, slots := 0, locals := 23 }
set_option maxHeartbeats 4000000 in
set_option maxRecDepth 100000 in
theorem c_X2_moves (l : Launch) (D : va_G) (cI cZ cB cJ : ClassId) (A_t : Nat) (A_t_board : Nat) (A_t_cut : Nat) (A_t_counts : Nat) (A_t_strength : Nat) (A_t_reason : Nat) (A_t_driver : Nat) (A_t_waits : Nat) (A_t_stands : Nat) (A_t_board_numbers : Nat) (A_t_board_owners : Nat) (A_t_board_cells : Nat) (V_t_board_cells : Nat → Int32) (x1 : Int32) (r0 : Int32) (hg : g_X2_moves V_t_board_cells x1 = some r0) : Met l yX2_moves wsX2_moves rX2_moves (PcR D cI cZ cB cJ [(A_t, .inr (2, [.ref A_t_board, .ref A_t_cut, .ref A_t_counts, .ref A_t_strength, .ref A_t_reason, .ref A_t_driver, .ref A_t_waits, .ref A_t_stands])), (A_t_board, .inr (0, [.ref A_t_board_numbers, .ref A_t_board_owners, .ref A_t_board_cells])), (A_t_board_cells, .inl (cI, 63, .inl V_t_board_cells))] [.ref A_t, .int x1]) (vp_Si (fun r' => r' = r0 ∧ bo r0)) 0 0 (fun _ => False) := by
  refine bodyRz (cc := cX2_moves) (maxL := 2) (lv := [(0, .ref A_t), (1, .int x1)]) (by decide) rfl (Nat.le_of_ble_eq_true rfl) rfl ?_
  intro p e s m args below meth c Q hx hb hml hown hts hP hK fin ls hl
  replace hown : s.vm.findClass RX2 = some m.cls := hown
  have S : CallFix p m c cX2_moves 2 s args wsX2_moves RX2 := ⟨hx, hb, hml, hown, hts⟩
  unfold g_X2_moves at hg
  refine lv_aload_n hx hb dX2_moves_0 rfl (lv_at hl 0 rfl) ?_
  refine xget (ci := 2) (C := RX2) (T := TX2) (N := 8) (v := .ref A_t_board) hx hb hts in_X2_moves_X2 hown hK hP 0 rfl rfl 0 (by decide) wd_X2_moves_1 rfl dX2_moves_1 ?_
  refine lv_iload_n hx hb dX2_moves_4 rfl (lv_at hl 1 rfl) ?_
  refine lv_iconst (v := 2) hx hb dX2_moves_5 (by decide) ?_
  obtain ⟨v1, hq, hg⟩ := bind_ex hg
  refine callRVi (As := [.int x1, .int 2]) (rest := []) S hK hP (c_X0_of l D cI cZ cB cJ A_t_board A_t_board_numbers A_t_board_owners A_t_board_cells V_t_board_cells x1 2 v1 hq) [1, 2] rfl (cwV 2 hts gX2_moves_X0_of rfl rfl rfl hd_X0_of ⟨Nat.le_of_ble_eq_true rfl, Nat.le_of_ble_eq_true rfl⟩) rfl rfl rfl hl.1 rfl (Nat.le_of_ble_eq_true rfl) dX2_moves_6 ⟨Nat.zero_le _, Nat.zero_le _⟩ ?_
  refine lv_iconst (v := 1) hx hb dX2_moves_9 (by decide) ?_
  refine lv_icmp_ne (tgt := 17) hx hb dX2_moves_10 (by decide) (fun hc => ?_) (fun hc => ?_)
  · replace hg := if_no hg hc
    refine lv_iconst (v := 0) hx hb dX2_moves_17 (by decide) ?_
    cases hg
    exact fin _ _ bo_0 dX2_moves_18
  · replace hg := if_yes hg hc
    refine lv_iconst (v := 1) hx hb dX2_moves_13 (by decide) ?_
    refine lv_goto (tgt := 18) hx hb dX2_moves_14 (by decide) ?_
    cases hg
    exact fin _ _ bo_1 dX2_moves_18
theorem hd_X2_isCutOff : yX2_isCutOff.cls = RX2 ∧ yX2_isCutOff.cls ≠ "java/lang/invoke/MethodHandle" ∧ yX2_isCutOff.cls ≠ "java/lang/invoke/VarHandle" ∧ (parseMethodDescriptor yX2_isCutOff.desc).map (fun d => d.parameters.length) = some 1 := by decide +kernel
theorem in_X2_isCutOff_X2 : ∀ w ∈ u_ws RX2 TX2 8, w ∈ wsX2_isCutOff := fun _ h => List.mem_cons_of_mem _ (List.mem_append_left _ (List.mem_append_right _ h))
theorem wd_X2_isCutOff_1 : Cond.fieldLink RX2 12 "FogOrders$Opening" "board" "LFogOrders$Board;" ∈ wsX2_isCutOff := List.mem_of_getElem? (i := 1) rfl
abbrev rX2_isCutOff : Room := { frames := 2, cells := 0, slots := 0, locals := 44 }
set_option maxHeartbeats 4000000 in
set_option maxRecDepth 100000 in
theorem c_X2_isCutOff (l : Launch) (D : va_G) (cI cZ cB cJ : ClassId) (A_t : Nat) (A_t_board : Nat) (A_t_cut : Nat) (A_t_counts : Nat) (A_t_strength : Nat) (A_t_reason : Nat) (A_t_driver : Nat) (A_t_waits : Nat) (A_t_stands : Nat) (A_t_board_numbers : Nat) (A_t_board_owners : Nat) (A_t_board_cells : Nat) (V_t_board_numbers : Nat → Int32) (V_t_board_cells : Nat → Int32) (x1 : Int32) (r0 : Int32) (hg : g_X2_isCutOff V_t_board_numbers V_t_board_cells x1 = some r0) : Met l yX2_isCutOff wsX2_isCutOff rX2_isCutOff (PcR D cI cZ cB cJ [(A_t, .inr (2, [.ref A_t_board, .ref A_t_cut, .ref A_t_counts, .ref A_t_strength, .ref A_t_reason, .ref A_t_driver, .ref A_t_waits, .ref A_t_stands])), (A_t_board, .inr (0, [.ref A_t_board_numbers, .ref A_t_board_owners, .ref A_t_board_cells])), (A_t_board_numbers, .inl (cI, 10, .inl V_t_board_numbers)), (A_t_board_cells, .inl (cI, 63, .inl V_t_board_cells))] [.ref A_t, .int x1]) (vp_Si (fun r' => r' = r0 ∧ bo r0)) 0 0 (fun _ => False) := by
  refine bodyRz (cc := cX2_isCutOff) (maxL := 3) (lv := [(0, .ref A_t), (1, .int x1)]) (by decide) rfl (Nat.le_of_ble_eq_true rfl) rfl ?_
  intro p e s m args below meth c Q hx hb hml hown hts hP hK fin ls hl
  replace hown : s.vm.findClass RX2 = some m.cls := hown
  have S : CallFix p m c cX2_isCutOff 3 s args wsX2_isCutOff RX2 := ⟨hx, hb, hml, hown, hts⟩
  unfold g_X2_isCutOff at hg
  refine lv_iconst (v := 0) hx hb dX2_isCutOff_0 (by decide) ?_
  refine lv_istore_n (lv' := [(2, .int 0), (0, .ref A_t), (1, .int x1)]) hx hb dX2_isCutOff_1 rfl hl (by decide) rfl (fun ls hl => ?_)
  have L : ∀ (nf : Nat) (v1 : Int32), ∀ ls : Array Slot, lv_has ls 3 [(2, .int v1), (0, .ref A_t), (1, .int x1)] → g_X2_isCutOff_L1 V_t_board_numbers V_t_board_cells x1 nf v1 = some r0 → W p l e rX2_isCutOff s m args below meth c s.heap [] 0 0 Q (F0 m 2 ls []) := by
    intro nf
    induction nf with
    | zero =>
      intro v1 ls hl hg
      exact no_some hg
    | succ nf ih =>
      intro v1 ls hl hg
      rw [g_X2_isCutOff_L1] at hg
      refine lv_iload_n hx hb dX2_isCutOff_2 rfl (lv_at hl 0 rfl) ?_
      refine lv_aload_n hx hb dX2_isCutOff_3 rfl (lv_at hl 1 rfl) ?_
      refine xget (ci := 2) (C := RX2) (T := TX2) (N := 8) (v := .ref A_t_board) hx hb hts in_X2_isCutOff_X2 hown hK hP 0 rfl rfl 0 (by decide) wd_X2_isCutOff_1 rfl dX2_isCutOff_4 ?_
      refine lv_iconst (v := 0) hx hb dX2_isCutOff_7 (by decide) ?_
      obtain ⟨v2, hq, hg⟩ := bind_ex hg
      refine callRVi (As := [.int 0]) (rest := [.int v1]) S hK hP (c_X0_number l D cI cZ cB cJ A_t_board A_t_board_numbers A_t_board_owners A_t_board_cells V_t_board_numbers 0 v2 hq) [1, 2] rfl (cwV 1 hts gX2_isCutOff_X0_number rfl rfl rfl hd_X0_number ⟨Nat.le_of_ble_eq_true rfl, Nat.le_of_ble_eq_true rfl⟩) rfl rfl rfl hl.1 rfl (Nat.le_of_ble_eq_true rfl) dX2_isCutOff_8 ⟨Nat.zero_le _, Nat.zero_le _⟩ ?_
      refine lv_icmp_ge (tgt := 93) hx hb dX2_isCutOff_11 (by decide) (fun hc => ?_) (fun hc => ?_)
      · replace hg := if_yes hg hc
        refine lv_iconst (v := 0) hx hb dX2_isCutOff_93 (by decide) ?_
        cases hg
        exact fin _ _ bo_0 dX2_isCutOff_94
      · replace hg := if_no hg hc
        refine lv_aload_n hx hb dX2_isCutOff_14 rfl (lv_at hl 1 rfl) ?_
        refine lv_iload_n hx hb dX2_isCutOff_15 rfl (lv_at hl 0 rfl) ?_
        obtain ⟨v3, hq, hg⟩ := bind_ex hg
        refine callRVz (As := [.int v1]) (rest := []) S hK hP (c_X2_moves l D cI cZ cB cJ A_t A_t_board A_t_cut A_t_counts A_t_strength A_t_reason A_t_driver A_t_waits A_t_stands A_t_board_numbers A_t_board_owners A_t_board_cells V_t_board_cells v1 v3 hq) [0, 1, 3] rfl (cwV 1 hts gX2_isCutOff_X2_moves rfl rfl rfl hd_X2_moves ⟨Nat.le_of_ble_eq_true rfl, Nat.le_of_ble_eq_true rfl⟩) rfl rfl rfl hl.1 rfl (Nat.le_of_ble_eq_true rfl) dX2_isCutOff_16 ⟨Nat.zero_le _, Nat.zero_le _⟩ (fun hz_v3 => ?_)
        refine lv_if_eq (tgt := 87) hx hb dX2_isCutOff_19 (by decide) (fun hc => ?_) (fun hc => ?_)
        · replace hg := if_yes hg hc
          refine lv_iinc (v := (v1 + 1)) (lv' := [(2, .int (v1 + 1)), (0, .ref A_t), (1, .int x1)]) hx hb dX2_isCutOff_87 hl (k := 0) rfl rfl (by decide) rfl (fun ls hl => ?_)
          refine lv_goto (tgt := 2) hx hb dX2_isCutOff_90 (by decide) ?_
          exact ih _ _ (lv_sub hl [0, 1, 2] rfl) hg
        · replace hg := if_no hg hc
          refine lv_aload_n hx hb dX2_isCutOff_22 rfl (lv_at hl 1 rfl) ?_
          refine xget (ci := 2) (C := RX2) (T := TX2) (N := 8) (v := .ref A_t_board) hx hb hts in_X2_isCutOff_X2 hown hK hP 0 rfl rfl 0 (by decide) wd_X2_isCutOff_1 rfl dX2_isCutOff_23 ?_
          refine lv_iload_n hx hb dX2_isCutOff_26 rfl (lv_at hl 0 rfl) ?_
          refine lv_iconst (v := 3) hx hb dX2_isCutOff_27 (by decide) ?_
          obtain ⟨v4, hq, hg⟩ := bind_ex hg
          refine callRVi (As := [.int v1, .int 3]) (rest := []) S hK hP (c_X0_of l D cI cZ cB cJ A_t_board A_t_board_numbers A_t_board_owners A_t_board_cells V_t_board_cells v1 3 v4 hq) [1, 3] rfl (cwV 2 hts gX2_isCutOff_X0_of rfl rfl rfl hd_X0_of ⟨Nat.le_of_ble_eq_true rfl, Nat.le_of_ble_eq_true rfl⟩) rfl rfl rfl hl.1 rfl (Nat.le_of_ble_eq_true rfl) dX2_isCutOff_28 ⟨Nat.zero_le _, Nat.zero_le _⟩ ?_
          refine lv_aload_n hx hb dX2_isCutOff_31 rfl (lv_at hl 1 rfl) ?_
          refine xget (ci := 2) (C := RX2) (T := TX2) (N := 8) (v := .ref A_t_board) hx hb hts in_X2_isCutOff_X2 hown hK hP 0 rfl rfl 0 (by decide) wd_X2_isCutOff_1 rfl dX2_isCutOff_32 ?_
          refine lv_iload_n hx hb dX2_isCutOff_35 rfl (lv_at hl 2 rfl) ?_
          refine lv_iconst (v := 1) hx hb dX2_isCutOff_36 (by decide) ?_
          obtain ⟨v5, hq, hg⟩ := bind_ex hg
          refine callRVi (As := [.int x1, .int 1]) (rest := [.int v4]) S hK hP (c_X0_of l D cI cZ cB cJ A_t_board A_t_board_numbers A_t_board_owners A_t_board_cells V_t_board_cells x1 1 v5 hq) [1, 3] rfl (cwV 2 hts gX2_isCutOff_X0_of rfl rfl rfl hd_X0_of ⟨Nat.le_of_ble_eq_true rfl, Nat.le_of_ble_eq_true rfl⟩) rfl rfl rfl hl.1 rfl (Nat.le_of_ble_eq_true rfl) dX2_isCutOff_37 ⟨Nat.zero_le _, Nat.zero_le _⟩ ?_
          refine lv_icmp_ne (tgt := 87) hx hb dX2_isCutOff_40 (by decide) (fun hc => ?_) (fun hc => ?_)
          · replace hg := if_no hg hc
            refine lv_iinc (v := (v1 + 1)) (lv' := [(2, .int (v1 + 1)), (0, .ref A_t), (1, .int x1)]) hx hb dX2_isCutOff_87 hl (k := 0) rfl rfl (by decide) rfl (fun ls hl => ?_)
            refine lv_goto (tgt := 2) hx hb dX2_isCutOff_90 (by decide) ?_
            exact ih _ _ (lv_sub hl [0, 1, 2] rfl) hg
          · replace hg := if_yes hg hc
            refine lv_aload_n hx hb dX2_isCutOff_43 rfl (lv_at hl 1 rfl) ?_
            refine xget (ci := 2) (C := RX2) (T := TX2) (N := 8) (v := .ref A_t_board) hx hb hts in_X2_isCutOff_X2 hown hK hP 0 rfl rfl 0 (by decide) wd_X2_isCutOff_1 rfl dX2_isCutOff_44 ?_
            refine lv_iload_n hx hb dX2_isCutOff_47 rfl (lv_at hl 0 rfl) ?_
            refine lv_iconst (v := 0) hx hb dX2_isCutOff_48 (by decide) ?_
            obtain ⟨v6, hq, hg⟩ := bind_ex hg
            refine callRVi (As := [.int v1, .int 0]) (rest := []) S hK hP (c_X0_of l D cI cZ cB cJ A_t_board A_t_board_numbers A_t_board_owners A_t_board_cells V_t_board_cells v1 0 v6 hq) [1, 3] rfl (cwV 2 hts gX2_isCutOff_X0_of rfl rfl rfl hd_X0_of ⟨Nat.le_of_ble_eq_true rfl, Nat.le_of_ble_eq_true rfl⟩) rfl rfl rfl hl.1 rfl (Nat.le_of_ble_eq_true rfl) dX2_isCutOff_49 ⟨Nat.zero_le _, Nat.zero_le _⟩ ?_
            refine lv_aload_n hx hb dX2_isCutOff_52 rfl (lv_at hl 1 rfl) ?_
            refine xget (ci := 2) (C := RX2) (T := TX2) (N := 8) (v := .ref A_t_board) hx hb hts in_X2_isCutOff_X2 hown hK hP 0 rfl rfl 0 (by decide) wd_X2_isCutOff_1 rfl dX2_isCutOff_53 ?_
            refine lv_iload_n hx hb dX2_isCutOff_56 rfl (lv_at hl 2 rfl) ?_
            refine lv_iconst (v := 0) hx hb dX2_isCutOff_57 (by decide) ?_
            obtain ⟨v7, hq, hg⟩ := bind_ex hg
            refine callRVi (As := [.int x1, .int 0]) (rest := [.int v6]) S hK hP (c_X0_of l D cI cZ cB cJ A_t_board A_t_board_numbers A_t_board_owners A_t_board_cells V_t_board_cells x1 0 v7 hq) [1, 3] rfl (cwV 2 hts gX2_isCutOff_X0_of rfl rfl rfl hd_X0_of ⟨Nat.le_of_ble_eq_true rfl, Nat.le_of_ble_eq_true rfl⟩) rfl rfl rfl hl.1 rfl (Nat.le_of_ble_eq_true rfl) dX2_isCutOff_58 ⟨Nat.zero_le _, Nat.zero_le _⟩ ?_
            refine lv_icmp_eq (tgt := 87) hx hb dX2_isCutOff_61 (by decide) (fun hc => ?_) (fun hc => ?_)
            · replace hg := if_yes hg hc
              refine lv_iinc (v := (v1 + 1)) (lv' := [(2, .int (v1 + 1)), (0, .ref A_t), (1, .int x1)]) hx hb dX2_isCutOff_87 hl (k := 0) rfl rfl (by decide) rfl (fun ls hl => ?_)
              refine lv_goto (tgt := 2) hx hb dX2_isCutOff_90 (by decide) ?_
              exact ih _ _ (lv_sub hl [0, 1, 2] rfl) hg
            · replace hg := if_no hg hc
              refine lv_aload_n hx hb dX2_isCutOff_64 rfl (lv_at hl 1 rfl) ?_
              refine xget (ci := 2) (C := RX2) (T := TX2) (N := 8) (v := .ref A_t_board) hx hb hts in_X2_isCutOff_X2 hown hK hP 0 rfl rfl 0 (by decide) wd_X2_isCutOff_1 rfl dX2_isCutOff_65 ?_
              refine lv_iload_n hx hb dX2_isCutOff_68 rfl (lv_at hl 0 rfl) ?_
              refine lv_iconst (v := 1) hx hb dX2_isCutOff_69 (by decide) ?_
              obtain ⟨v8, hq, hg⟩ := bind_ex hg
              refine callRVi (As := [.int v1, .int 1]) (rest := []) S hK hP (c_X0_of l D cI cZ cB cJ A_t_board A_t_board_numbers A_t_board_owners A_t_board_cells V_t_board_cells v1 1 v8 hq) [1, 3] rfl (cwV 2 hts gX2_isCutOff_X0_of rfl rfl rfl hd_X0_of ⟨Nat.le_of_ble_eq_true rfl, Nat.le_of_ble_eq_true rfl⟩) rfl rfl rfl hl.1 rfl (Nat.le_of_ble_eq_true rfl) dX2_isCutOff_70 ⟨Nat.zero_le _, Nat.zero_le _⟩ ?_
              refine lv_aload_n hx hb dX2_isCutOff_73 rfl (lv_at hl 1 rfl) ?_
              refine xget (ci := 2) (C := RX2) (T := TX2) (N := 8) (v := .ref A_t_board) hx hb hts in_X2_isCutOff_X2 hown hK hP 0 rfl rfl 0 (by decide) wd_X2_isCutOff_1 rfl dX2_isCutOff_74 ?_
              refine lv_iload_n hx hb dX2_isCutOff_77 rfl (lv_at hl 2 rfl) ?_
              refine lv_iconst (v := 3) hx hb dX2_isCutOff_78 (by decide) ?_
              obtain ⟨v9, hq, hg⟩ := bind_ex hg
              refine callRVi (As := [.int x1, .int 3]) (rest := [.int v8]) S hK hP (c_X0_of l D cI cZ cB cJ A_t_board A_t_board_numbers A_t_board_owners A_t_board_cells V_t_board_cells x1 3 v9 hq) [1, 3] rfl (cwV 2 hts gX2_isCutOff_X0_of rfl rfl rfl hd_X0_of ⟨Nat.le_of_ble_eq_true rfl, Nat.le_of_ble_eq_true rfl⟩) rfl rfl rfl hl.1 rfl (Nat.le_of_ble_eq_true rfl) dX2_isCutOff_79 ⟨Nat.zero_le _, Nat.zero_le _⟩ ?_
              refine lv_icmp_eq (tgt := 87) hx hb dX2_isCutOff_82 (by decide) (fun hc => ?_) (fun hc => ?_)
              · replace hg := if_yes hg hc
                refine lv_iinc (v := (v1 + 1)) (lv' := [(2, .int (v1 + 1)), (0, .ref A_t), (1, .int x1)]) hx hb dX2_isCutOff_87 hl (k := 0) rfl rfl (by decide) rfl (fun ls hl => ?_)
                refine lv_goto (tgt := 2) hx hb dX2_isCutOff_90 (by decide) ?_
                exact ih _ _ (lv_sub hl [0, 1, 2] rfl) hg
              · replace hg := if_no hg hc
                refine lv_iconst (v := 1) hx hb dX2_isCutOff_85 (by decide) ?_
                cases hg
                exact fin _ _ bo_1 dX2_isCutOff_86
  exact L FU _ _ (lv_sub hl [0, 1, 2] rfl) hg
theorem hd_X2_hasUse : yX2_hasUse.cls = RX2 ∧ yX2_hasUse.cls ≠ "java/lang/invoke/MethodHandle" ∧ yX2_hasUse.cls ≠ "java/lang/invoke/VarHandle" ∧ (parseMethodDescriptor yX2_hasUse.desc).map (fun d => d.parameters.length) = some 1 := by decide +kernel
theorem in_X2_hasUse_X2 : ∀ w ∈ u_ws RX2 TX2 8, w ∈ wsX2_hasUse := fun _ h => List.mem_cons_of_mem _ (List.mem_append_left _ (List.mem_append_right _ h))
theorem wd_X2_hasUse_1 : Cond.fieldLink RX2 12 "FogOrders$Opening" "board" "LFogOrders$Board;" ∈ wsX2_hasUse := List.mem_of_getElem? (i := 1) rfl
abbrev rX2_hasUse : Room := { frames := 2, cells := 0, slots := 0, locals := 45 }
set_option maxHeartbeats 4000000 in
set_option maxRecDepth 100000 in
theorem c_X2_hasUse (l : Launch) (D : va_G) (cI cZ cB cJ : ClassId) (A_t : Nat) (A_t_board : Nat) (A_t_cut : Nat) (A_t_counts : Nat) (A_t_strength : Nat) (A_t_reason : Nat) (A_t_driver : Nat) (A_t_waits : Nat) (A_t_stands : Nat) (A_t_board_numbers : Nat) (A_t_board_owners : Nat) (A_t_board_cells : Nat) (V_t_board_cells : Nat → Int32) (V_t_board_numbers : Nat → Int32) (x1 : Int32) (r0 : Int32) (hg : g_X2_hasUse V_t_board_cells V_t_board_numbers x1 = some r0) : Met l yX2_hasUse wsX2_hasUse rX2_hasUse (PcR D cI cZ cB cJ [(A_t, .inr (2, [.ref A_t_board, .ref A_t_cut, .ref A_t_counts, .ref A_t_strength, .ref A_t_reason, .ref A_t_driver, .ref A_t_waits, .ref A_t_stands])), (A_t_board, .inr (0, [.ref A_t_board_numbers, .ref A_t_board_owners, .ref A_t_board_cells])), (A_t_board_cells, .inl (cI, 63, .inl V_t_board_cells)), (A_t_board_numbers, .inl (cI, 10, .inl V_t_board_numbers))] [.ref A_t, .int x1]) (vp_Si (fun r' => r' = r0 ∧ bo r0)) 0 0 (fun _ => False) := by
  refine bodyRz (cc := cX2_hasUse) (maxL := 3) (lv := [(0, .ref A_t), (1, .int x1)]) (by decide) rfl (Nat.le_of_ble_eq_true rfl) rfl ?_
  intro p e s m args below meth c Q hx hb hml hown hts hP hK fin ls hl
  replace hown : s.vm.findClass RX2 = some m.cls := hown
  have S : CallFix p m c cX2_hasUse 3 s args wsX2_hasUse RX2 := ⟨hx, hb, hml, hown, hts⟩
  unfold g_X2_hasUse at hg
  refine lv_aload_n hx hb dX2_hasUse_0 rfl (lv_at hl 0 rfl) ?_
  refine xget (ci := 2) (C := RX2) (T := TX2) (N := 8) (v := .ref A_t_board) hx hb hts in_X2_hasUse_X2 hown hK hP 0 rfl rfl 0 (by decide) wd_X2_hasUse_1 rfl dX2_hasUse_1 ?_
  refine lv_aload_n hx hb dX2_hasUse_4 rfl (lv_at hl 0 rfl) ?_
  refine xget (ci := 2) (C := RX2) (T := TX2) (N := 8) (v := .ref A_t_board) hx hb hts in_X2_hasUse_X2 hown hK hP 0 rfl rfl 0 (by decide) wd_X2_hasUse_1 rfl dX2_hasUse_5 ?_
  refine lv_iload_n hx hb dX2_hasUse_8 rfl (lv_at hl 1 rfl) ?_
  refine lv_iconst (v := 4) hx hb dX2_hasUse_9 (by decide) ?_
  obtain ⟨v1, hq, hg⟩ := bind_ex hg
  refine callRVi (As := [.int x1, .int 4]) (rest := [.ref A_t_board]) S hK hP (c_X0_of l D cI cZ cB cJ A_t_board A_t_board_numbers A_t_board_owners A_t_board_cells V_t_board_cells x1 4 v1 hq) [1, 2] rfl (cwV 2 hts gX2_hasUse_X0_of rfl rfl rfl hd_X0_of ⟨Nat.le_of_ble_eq_true rfl, Nat.le_of_ble_eq_true rfl⟩) rfl rfl rfl hl.1 rfl (Nat.le_of_ble_eq_true rfl) dX2_hasUse_10 ⟨Nat.zero_le _, Nat.zero_le _⟩ ?_
  obtain ⟨v2, hq, hg⟩ := bind_ex hg
  refine callRVi (As := [.int v1]) (rest := []) S hK hP (c_X0_armyOn l D cI cZ cB cJ A_t_board A_t_board_numbers A_t_board_owners A_t_board_cells V_t_board_numbers V_t_board_cells v1 v2 hq) [1, 3, 2] rfl (cwV 1 hts gX2_hasUse_X0_armyOn rfl rfl rfl hd_X0_armyOn ⟨Nat.le_of_ble_eq_true rfl, Nat.le_of_ble_eq_true rfl⟩) rfl rfl rfl hl.1 rfl (Nat.le_of_ble_eq_true rfl) dX2_hasUse_13 ⟨Nat.zero_le _, Nat.zero_le _⟩ ?_
  refine lv_istore_n (lv' := [(2, .int v2), (0, .ref A_t), (1, .int x1)]) hx hb dX2_hasUse_16 rfl hl (by decide) rfl (fun ls hl => ?_)
  refine lv_iload_n hx hb dX2_hasUse_17 rfl (lv_at hl 0 rfl) ?_
  refine lv_iconst (v := (-1)) hx hb dX2_hasUse_18 (by decide) ?_
  refine lv_icmp_eq (tgt := 27) hx hb dX2_hasUse_19 (by decide) (fun hc => ?_) (fun hc => ?_)
  · replace hg := if_yes hg hc
    refine lv_iconst (v := 0) hx hb dX2_hasUse_27 (by decide) ?_
    cases hg
    exact fin _ _ bo_0 dX2_hasUse_28
  · replace hg := if_no hg hc
    refine lv_iload_n hx hb dX2_hasUse_22 rfl (lv_at hl 0 rfl) ?_
    refine lv_iload_n hx hb dX2_hasUse_23 rfl (lv_at hl 2 rfl) ?_
    refine lv_icmp_ne (tgt := 29) hx hb dX2_hasUse_24 (by decide) (fun hc => ?_) (fun hc => ?_)
    · replace hg := if_no hg hc
      refine lv_aload_n hx hb dX2_hasUse_29 rfl (lv_at hl 1 rfl) ?_
      refine xget (ci := 2) (C := RX2) (T := TX2) (N := 8) (v := .ref A_t_board) hx hb hts in_X2_hasUse_X2 hown hK hP 0 rfl rfl 0 (by decide) wd_X2_hasUse_1 rfl dX2_hasUse_30 ?_
      refine lv_iload_n hx hb dX2_hasUse_33 rfl (lv_at hl 2 rfl) ?_
      refine lv_iconst (v := 4) hx hb dX2_hasUse_34 (by decide) ?_
      obtain ⟨v3, hq, hg⟩ := bind_ex hg
      refine callRVi (As := [.int x1, .int 4]) (rest := []) S hK hP (c_X0_of l D cI cZ cB cJ A_t_board A_t_board_numbers A_t_board_owners A_t_board_cells V_t_board_cells x1 4 v3 hq) [1, 2] rfl (cwV 2 hts gX2_hasUse_X0_of rfl rfl rfl hd_X0_of ⟨Nat.le_of_ble_eq_true rfl, Nat.le_of_ble_eq_true rfl⟩) rfl rfl rfl hl.1 rfl (Nat.le_of_ble_eq_true rfl) dX2_hasUse_35 ⟨Nat.zero_le _, Nat.zero_le _⟩ ?_
      refine lv_aload_n hx hb dX2_hasUse_38 rfl (lv_at hl 1 rfl) ?_
      refine xget (ci := 2) (C := RX2) (T := TX2) (N := 8) (v := .ref A_t_board) hx hb hts in_X2_hasUse_X2 hown hK hP 0 rfl rfl 0 (by decide) wd_X2_hasUse_1 rfl dX2_hasUse_39 ?_
      refine lv_iload_n hx hb dX2_hasUse_42 rfl (lv_at hl 2 rfl) ?_
      refine lv_iconst (v := 3) hx hb dX2_hasUse_43 (by decide) ?_
      obtain ⟨v4, hq, hg⟩ := bind_ex hg
      refine callRVi (As := [.int x1, .int 3]) (rest := [.int v3]) S hK hP (c_X0_of l D cI cZ cB cJ A_t_board A_t_board_numbers A_t_board_owners A_t_board_cells V_t_board_cells x1 3 v4 hq) [1, 2] rfl (cwV 2 hts gX2_hasUse_X0_of rfl rfl rfl hd_X0_of ⟨Nat.le_of_ble_eq_true rfl, Nat.le_of_ble_eq_true rfl⟩) rfl rfl rfl hl.1 rfl (Nat.le_of_ble_eq_true rfl) dX2_hasUse_44 ⟨Nat.zero_le _, Nat.zero_le _⟩ ?_
      refine lv_icmp_ne (tgt := 64) hx hb dX2_hasUse_47 (by decide) (fun hc => ?_) (fun hc => ?_)
      · replace hg := if_no hg hc
        refine lv_aload_n hx hb dX2_hasUse_64 rfl (lv_at hl 1 rfl) ?_
        refine lv_iload_n hx hb dX2_hasUse_65 rfl (lv_at hl 0 rfl) ?_
        obtain ⟨v5, hq, hg⟩ := bind_ex hg
        refine callRVz (As := [.int v2]) (rest := []) S hK hP (c_X2_moves l D cI cZ cB cJ A_t A_t_board A_t_cut A_t_counts A_t_strength A_t_reason A_t_driver A_t_waits A_t_stands A_t_board_numbers A_t_board_owners A_t_board_cells V_t_board_cells v2 v5 hq) [0, 1, 2] rfl (cwV 1 hts gX2_hasUse_X2_moves rfl rfl rfl hd_X2_moves ⟨Nat.le_of_ble_eq_true rfl, Nat.le_of_ble_eq_true rfl⟩) rfl rfl rfl hl.1 rfl (Nat.le_of_ble_eq_true rfl) dX2_hasUse_66 ⟨Nat.zero_le _, Nat.zero_le _⟩ (fun hz_v5 => ?_)
        refine lv_if_eq (tgt := 97) hx hb dX2_hasUse_69 (by decide) (fun hc => ?_) (fun hc => ?_)
        · replace hg := if_yes hg hc
          refine lv_iconst (v := 0) hx hb dX2_hasUse_97 (by decide) ?_
          cases hg
          exact fin _ _ bo_0 dX2_hasUse_98
        · replace hg := if_no hg hc
          refine lv_aload_n hx hb dX2_hasUse_72 rfl (lv_at hl 1 rfl) ?_
          refine xget (ci := 2) (C := RX2) (T := TX2) (N := 8) (v := .ref A_t_board) hx hb hts in_X2_hasUse_X2 hown hK hP 0 rfl rfl 0 (by decide) wd_X2_hasUse_1 rfl dX2_hasUse_73 ?_
          refine lv_iload_n hx hb dX2_hasUse_76 rfl (lv_at hl 0 rfl) ?_
          refine lv_iconst (v := 3) hx hb dX2_hasUse_77 (by decide) ?_
          obtain ⟨v6, hq, hg⟩ := bind_ex hg
          refine callRVi (As := [.int v2, .int 3]) (rest := []) S hK hP (c_X0_of l D cI cZ cB cJ A_t_board A_t_board_numbers A_t_board_owners A_t_board_cells V_t_board_cells v2 3 v6 hq) [1, 2] rfl (cwV 2 hts gX2_hasUse_X0_of rfl rfl rfl hd_X0_of ⟨Nat.le_of_ble_eq_true rfl, Nat.le_of_ble_eq_true rfl⟩) rfl rfl rfl hl.1 rfl (Nat.le_of_ble_eq_true rfl) dX2_hasUse_78 ⟨Nat.zero_le _, Nat.zero_le _⟩ ?_
          refine lv_aload_n hx hb dX2_hasUse_81 rfl (lv_at hl 1 rfl) ?_
          refine xget (ci := 2) (C := RX2) (T := TX2) (N := 8) (v := .ref A_t_board) hx hb hts in_X2_hasUse_X2 hown hK hP 0 rfl rfl 0 (by decide) wd_X2_hasUse_1 rfl dX2_hasUse_82 ?_
          refine lv_iload_n hx hb dX2_hasUse_85 rfl (lv_at hl 2 rfl) ?_
          refine lv_iconst (v := 3) hx hb dX2_hasUse_86 (by decide) ?_
          obtain ⟨v7, hq, hg⟩ := bind_ex hg
          refine callRVi (As := [.int x1, .int 3]) (rest := [.int v6]) S hK hP (c_X0_of l D cI cZ cB cJ A_t_board A_t_board_numbers A_t_board_owners A_t_board_cells V_t_board_cells x1 3 v7 hq) [1, 2] rfl (cwV 2 hts gX2_hasUse_X0_of rfl rfl rfl hd_X0_of ⟨Nat.le_of_ble_eq_true rfl, Nat.le_of_ble_eq_true rfl⟩) rfl rfl rfl hl.1 rfl (Nat.le_of_ble_eq_true rfl) dX2_hasUse_87 ⟨Nat.zero_le _, Nat.zero_le _⟩ ?_
          refine lv_icmp_ne (tgt := 97) hx hb dX2_hasUse_90 (by decide) (fun hc => ?_) (fun hc => ?_)
          · replace hg := if_no hg hc
            refine lv_iconst (v := 0) hx hb dX2_hasUse_97 (by decide) ?_
            cases hg
            exact fin _ _ bo_0 dX2_hasUse_98
          · replace hg := if_yes hg hc
            refine lv_iconst (v := 1) hx hb dX2_hasUse_93 (by decide) ?_
            refine lv_goto (tgt := 98) hx hb dX2_hasUse_94 (by decide) ?_
            cases hg
            exact fin _ _ bo_1 dX2_hasUse_98
      · replace hg := if_yes hg hc
        refine lv_aload_n hx hb dX2_hasUse_50 rfl (lv_at hl 1 rfl) ?_
        refine lv_iload_n hx hb dX2_hasUse_51 rfl (lv_at hl 0 rfl) ?_
        obtain ⟨v8, hq, hg⟩ := bind_ex hg
        refine callRVz (As := [.int v2]) (rest := []) S hK hP (c_X2_moves l D cI cZ cB cJ A_t A_t_board A_t_cut A_t_counts A_t_strength A_t_reason A_t_driver A_t_waits A_t_stands A_t_board_numbers A_t_board_owners A_t_board_cells V_t_board_cells v2 v8 hq) [0, 1, 2] rfl (cwV 1 hts gX2_hasUse_X2_moves rfl rfl rfl hd_X2_moves ⟨Nat.le_of_ble_eq_true rfl, Nat.le_of_ble_eq_true rfl⟩) rfl rfl rfl hl.1 rfl (Nat.le_of_ble_eq_true rfl) dX2_hasUse_52 ⟨Nat.zero_le _, Nat.zero_le _⟩ (fun hz_v8 => ?_)
        refine lv_if_ne (tgt := 62) hx hb dX2_hasUse_55 (by decide) (fun hc => ?_) (fun hc => ?_)
        · replace hg := if_no hg hc
          refine lv_iconst (v := 0) hx hb dX2_hasUse_62 (by decide) ?_
          cases hg
          exact fin _ _ bo_0 dX2_hasUse_63
        · replace hg := if_yes hg hc
          refine lv_iconst (v := 1) hx hb dX2_hasUse_58 (by decide) ?_
          refine lv_goto (tgt := 63) hx hb dX2_hasUse_59 (by decide) ?_
          cases hg
          exact fin _ _ bo_1 dX2_hasUse_63
    · replace hg := if_yes hg hc
      refine lv_iconst (v := 0) hx hb dX2_hasUse_27 (by decide) ?_
      cases hg
      exact fin _ _ bo_0 dX2_hasUse_28
theorem hd_X2_judgeSupports : yX2_judgeSupports.cls = RX2 ∧ yX2_judgeSupports.cls ≠ "java/lang/invoke/MethodHandle" ∧ yX2_judgeSupports.cls ≠ "java/lang/invoke/VarHandle" ∧ (parseMethodDescriptor yX2_judgeSupports.desc).map (fun d => d.parameters.length) = some 0 := by decide +kernel
theorem in_X2_judgeSupports_X2 : ∀ w ∈ u_ws RX2 TX2 8, w ∈ wsX2_judgeSupports := fun _ h => List.mem_cons_of_mem _ (List.mem_append_left _ (List.mem_append_right _ h))
theorem wd_X2_judgeSupports_1 : Cond.fieldLink RX2 12 "FogOrders$Opening" "board" "LFogOrders$Board;" ∈ wsX2_judgeSupports := List.mem_of_getElem? (i := 1) rfl
theorem wd_X2_judgeSupports_2 : Cond.fieldLink RX2 18 "FogOrders$Opening" "cut" "[I" ∈ wsX2_judgeSupports := List.mem_of_getElem? (i := 2) rfl
theorem wd_X2_judgeSupports_35 : Cond.initialized RX4 ∈ wsX2_judgeSupports := List.mem_of_getElem? (i := 35) rfl
theorem wd_X2_judgeSupports_34 : Cond.static yX4_enter ∈ wsX2_judgeSupports := List.mem_of_getElem? (i := 34) rfl
theorem wd_X2_judgeSupports_3 : Cond.fieldLink RX2 22 "FogOrders$Opening" "counts" "[I" ∈ wsX2_judgeSupports := List.mem_of_getElem? (i := 3) rfl
abbrev rX2_judgeSupports : Room := { frames := 3, cells := 0, slots := 0, locals := 67 }
set_option maxHeartbeats 4000000 in
set_option maxRecDepth 100000 in
theorem c_X2_judgeSupports (l : Launch) (D : va_G) (cI cZ cB cJ : ClassId) (A_t : Nat) (A_t_board : Nat) (A_t_cut : Nat) (A_t_counts : Nat) (A_t_strength : Nat) (A_t_reason : Nat) (A_t_driver : Nat) (A_t_waits : Nat) (A_t_stands : Nat) (A_t_board_numbers : Nat) (A_t_board_owners : Nat) (A_t_board_cells : Nat) (sz : Nat) (V_t_board_numbers : Nat → Int32) (V_t_board_cells : Nat → Int32) (V_t_cut : Nat → Int32) (V_t_counts : Nat → Int32) (w1 : Nat → Int32) (w2 : Nat → Int32) (hg : g_X2_judgeSupports V_t_board_numbers V_t_board_cells V_t_cut V_t_counts = some (w1, w2)) : Met l yX2_judgeSupports wsX2_judgeSupports rX2_judgeSupports (PcW D cI cZ cB cJ sz [(A_t, .inr (2, [.ref A_t_board, .ref A_t_cut, .ref A_t_counts, .ref A_t_strength, .ref A_t_reason, .ref A_t_driver, .ref A_t_waits, .ref A_t_stands])), (A_t_board, .inr (0, [.ref A_t_board_numbers, .ref A_t_board_owners, .ref A_t_board_cells])), (A_t_board_numbers, .inl (cI, 10, .inl V_t_board_numbers)), (A_t_board_cells, .inl (cI, 63, .inl V_t_board_cells)), (A_t_cut, .inl (cI, 9, .inl V_t_cut)), (A_t_counts, .inl (cI, 9, .inl V_t_counts))] [.ref A_t]) (QWv D cI cZ cB cJ sz [(A_t, .inr (2, [.ref A_t_board, .ref A_t_cut, .ref A_t_counts, .ref A_t_strength, .ref A_t_reason, .ref A_t_driver, .ref A_t_waits, .ref A_t_stands])), (A_t_board, .inr (0, [.ref A_t_board_numbers, .ref A_t_board_owners, .ref A_t_board_cells])), (A_t_board_numbers, .inl (cI, 10, .inl V_t_board_numbers)), (A_t_board_cells, .inl (cI, 63, .inl V_t_board_cells)), (A_t_cut, .inl (cI, 9, .inl V_t_cut)), (A_t_counts, .inl (cI, 9, .inl V_t_counts))] [(A_t, .inr (2, [.ref A_t_board, .ref A_t_cut, .ref A_t_counts, .ref A_t_strength, .ref A_t_reason, .ref A_t_driver, .ref A_t_waits, .ref A_t_stands])), (A_t_board, .inr (0, [.ref A_t_board_numbers, .ref A_t_board_owners, .ref A_t_board_cells])), (A_t_board_numbers, .inl (cI, 10, .inl V_t_board_numbers)), (A_t_board_cells, .inl (cI, 63, .inl V_t_board_cells)), (A_t_cut, .inl (cI, 9, .inl w1)), (A_t_counts, .inl (cI, 9, .inl w2))]) 0 0 (va_A [(A_t, .inr (2, [.ref A_t_board, .ref A_t_cut, .ref A_t_counts, .ref A_t_strength, .ref A_t_reason, .ref A_t_driver, .ref A_t_waits, .ref A_t_stands])), (A_t_board, .inr (0, [.ref A_t_board_numbers, .ref A_t_board_owners, .ref A_t_board_cells])), (A_t_board_numbers, .inl (cI, 10, .inl V_t_board_numbers)), (A_t_board_cells, .inl (cI, 63, .inl V_t_board_cells)), (A_t_cut, .inl (cI, 9, .inl V_t_cut)), (A_t_counts, .inl (cI, 9, .inl V_t_counts))] sz) := by
  refine bodyWv (cc := cX2_judgeSupports) (maxL := 5) (lv := [(0, .ref A_t)]) (by decide) rfl (Nat.le_of_ble_eq_true rfl) rfl ?_
  intro p e s m args below meth c Q hx hb hml hown hts A hP hK hD hA hS fin ls hl
  replace hown : s.vm.findClass RX2 = some m.cls := hown
  have S : CallFix p m c cX2_judgeSupports 5 s args wsX2_judgeSupports RX2 := ⟨hx, hb, hml, hown, hts⟩
  unfold g_X2_judgeSupports at hg
  refine lv_iconst (v := 0) hx hb dX2_judgeSupports_0 (by decide) ?_
  refine lv_istore_n (lv' := [(1, .int 0), (0, .ref A_t)]) hx hb dX2_judgeSupports_1 rfl hl (by decide) rfl (fun ls hl => ?_)
  obtain ⟨f15, f16, hL, hg⟩ := b2_ex hg
  have kx : ∀ (H : Heap) (locs : List Loc), va_P D vwCl [(A_t, .inr (2, [.ref A_t_board, .ref A_t_cut, .ref A_t_counts, .ref A_t_strength, .ref A_t_reason, .ref A_t_driver, .ref A_t_waits, .ref A_t_stands])), (A_t_board, .inr (0, [.ref A_t_board_numbers, .ref A_t_board_owners, .ref A_t_board_cells])), (A_t_board_numbers, .inl (cI, 10, .inl V_t_board_numbers)), (A_t_board_cells, .inl (cI, 63, .inl V_t_board_cells)), (A_t_cut, .inl (cI, 9, .inl f16)), (A_t_counts, .inl (cI, 9, .inl f15))] H → va_D A [(A_t, .inr (2, [.ref A_t_board, .ref A_t_cut, .ref A_t_counts, .ref A_t_strength, .ref A_t_reason, .ref A_t_driver, .ref A_t_waits, .ref A_t_stands])), (A_t_board, .inr (0, [.ref A_t_board_numbers, .ref A_t_board_owners, .ref A_t_board_cells])), (A_t_board_numbers, .inl (cI, 10, .inl V_t_board_numbers)), (A_t_board_cells, .inl (cI, 63, .inl V_t_board_cells)), (A_t_cut, .inl (cI, 9, .inl f16)), (A_t_counts, .inl (cI, 9, .inl f15))] → va_S A s.heap H locs → ∀ ls : Array Slot, lv_has ls 5 [] → W p l e rX2_judgeSupports s m args below meth c H locs 0 0 Q (F0 m 115 ls []) := by
    intro H locs hP hD hS ls hl
    cases hg
    exact fin _ _ _ _ dX2_judgeSupports_115 hP hD hS
  have L : ∀ (nf : Nat) (v1 : Int32) (f2 : Nat → Int32) (f3 : Nat → Int32), ∀ (H : Heap) (locs : List Loc), va_P D vwCl [(A_t, .inr (2, [.ref A_t_board, .ref A_t_cut, .ref A_t_counts, .ref A_t_strength, .ref A_t_reason, .ref A_t_driver, .ref A_t_waits, .ref A_t_stands])), (A_t_board, .inr (0, [.ref A_t_board_numbers, .ref A_t_board_owners, .ref A_t_board_cells])), (A_t_board_numbers, .inl (cI, 10, .inl V_t_board_numbers)), (A_t_board_cells, .inl (cI, 63, .inl V_t_board_cells)), (A_t_cut, .inl (cI, 9, .inl f3)), (A_t_counts, .inl (cI, 9, .inl f2))] H → va_D A [(A_t, .inr (2, [.ref A_t_board, .ref A_t_cut, .ref A_t_counts, .ref A_t_strength, .ref A_t_reason, .ref A_t_driver, .ref A_t_waits, .ref A_t_stands])), (A_t_board, .inr (0, [.ref A_t_board_numbers, .ref A_t_board_owners, .ref A_t_board_cells])), (A_t_board_numbers, .inl (cI, 10, .inl V_t_board_numbers)), (A_t_board_cells, .inl (cI, 63, .inl V_t_board_cells)), (A_t_cut, .inl (cI, 9, .inl f3)), (A_t_counts, .inl (cI, 9, .inl f2))] → va_S A s.heap H locs → ∀ ls : Array Slot, lv_has ls 5 [(1, .int v1), (0, .ref A_t)] → g_X2_judgeSupports_L1 V_t_board_numbers V_t_board_cells nf v1 f2 f3 = some (f15, f16) → W p l e rX2_judgeSupports s m args below meth c H locs 0 0 Q (F0 m 2 ls []) := by
    intro nf
    induction nf with
    | zero =>
      intro v1 f2 f3 H locs hP hD hS ls hl hg
      exact no_some hg
    | succ nf ih =>
      intro v1 f2 f3 H locs hP hD hS ls hl hg
      rw [g_X2_judgeSupports_L1] at hg
      refine lv_iload_n hx hb dX2_judgeSupports_2 rfl (lv_at hl 0 rfl) ?_
      refine lv_aload_n hx hb dX2_judgeSupports_3 rfl (lv_at hl 1 rfl) ?_
      refine xget (ci := 2) (C := RX2) (T := TX2) (N := 8) (v := .ref A_t_board) hx hb hts in_X2_judgeSupports_X2 hown hK hP 0 rfl rfl 0 (by decide) wd_X2_judgeSupports_1 rfl dX2_judgeSupports_4 ?_
      refine lv_iconst (v := 0) hx hb dX2_judgeSupports_7 (by decide) ?_
      obtain ⟨v4, hq, hg⟩ := bind_ex hg
      refine callRVi (As := [.int 0]) (rest := [.int v1]) S hK hP (c_X0_number l D cI cZ cB cJ A_t_board A_t_board_numbers A_t_board_owners A_t_board_cells V_t_board_numbers 0 v4 hq) [1, 2] rfl (cwV 1 hts gX2_judgeSupports_X0_number rfl rfl rfl hd_X0_number ⟨Nat.le_of_ble_eq_true rfl, Nat.le_of_ble_eq_true rfl⟩) rfl rfl rfl hl.1 rfl (Nat.le_of_ble_eq_true rfl) dX2_judgeSupports_8 ⟨Nat.zero_le _, Nat.zero_le _⟩ ?_
      refine lv_icmp_ge (tgt := 115) hx hb dX2_judgeSupports_11 (by decide) (fun hc => ?_) (fun hc => ?_)
      · replace hg := if_yes hg hc
        cases hg
        exact kx _ _ hP hD hS _ (lv_sub hl [] rfl)
      · replace hg := if_no hg hc
        refine lv_aload_n hx hb dX2_judgeSupports_14 rfl (lv_at hl 1 rfl) ?_
        refine xget (ci := 2) (C := RX2) (T := TX2) (N := 8) (v := .ref A_t_board) hx hb hts in_X2_judgeSupports_X2 hown hK hP 0 rfl rfl 0 (by decide) wd_X2_judgeSupports_1 rfl dX2_judgeSupports_15 ?_
        refine lv_iload_n hx hb dX2_judgeSupports_18 rfl (lv_at hl 0 rfl) ?_
        refine lv_iconst (v := 2) hx hb dX2_judgeSupports_19 (by decide) ?_
        obtain ⟨v5, hq, hg⟩ := bind_ex hg
        refine callRVi (As := [.int v1, .int 2]) (rest := []) S hK hP (c_X0_of l D cI cZ cB cJ A_t_board A_t_board_numbers A_t_board_owners A_t_board_cells V_t_board_cells v1 2 v5 hq) [1, 3] rfl (cwV 2 hts gX2_judgeSupports_X0_of rfl rfl rfl hd_X0_of ⟨Nat.le_of_ble_eq_true rfl, Nat.le_of_ble_eq_true rfl⟩) rfl rfl rfl hl.1 rfl (Nat.le_of_ble_eq_true rfl) dX2_judgeSupports_20 ⟨Nat.zero_le _, Nat.zero_le _⟩ ?_
        refine lv_iconst (v := 2) hx hb dX2_judgeSupports_23 (by decide) ?_
        have hJ1 : ∀ (v6 : Int32), bo v6 → ∀ (H : Heap) (locs : List Loc), va_P D vwCl [(A_t, .inr (2, [.ref A_t_board, .ref A_t_cut, .ref A_t_counts, .ref A_t_strength, .ref A_t_reason, .ref A_t_driver, .ref A_t_waits, .ref A_t_stands])), (A_t_board, .inr (0, [.ref A_t_board_numbers, .ref A_t_board_owners, .ref A_t_board_cells])), (A_t_board_numbers, .inl (cI, 10, .inl V_t_board_numbers)), (A_t_board_cells, .inl (cI, 63, .inl V_t_board_cells)), (A_t_cut, .inl (cI, 9, .inl f3)), (A_t_counts, .inl (cI, 9, .inl f2))] H → va_D A [(A_t, .inr (2, [.ref A_t_board, .ref A_t_cut, .ref A_t_counts, .ref A_t_strength, .ref A_t_reason, .ref A_t_driver, .ref A_t_waits, .ref A_t_stands])), (A_t_board, .inr (0, [.ref A_t_board_numbers, .ref A_t_board_owners, .ref A_t_board_cells])), (A_t_board_numbers, .inl (cI, 10, .inl V_t_board_numbers)), (A_t_board_cells, .inl (cI, 63, .inl V_t_board_cells)), (A_t_cut, .inl (cI, 9, .inl f3)), (A_t_counts, .inl (cI, 9, .inl f2))] → va_S A s.heap H locs → ∀ ls : Array Slot, lv_has ls 5 [(1, .int v1), (0, .ref A_t)] → g_X2_judgeSupports_J1 f3 v1 f2 V_t_board_cells V_t_board_numbers (g_X2_judgeSupports_L1 V_t_board_numbers V_t_board_cells nf) v6 = some (f15, f16) → W p l e rX2_judgeSupports s m args below meth c H locs 0 0 Q (F0 m 32 ls [.int v6]) := by
          intro v6 hz_v6 H locs hP hD hS ls hl hg
          unfold g_X2_judgeSupports_J1 at hg
          refine lv_istore_n (lv' := [(2, .int v6), (1, .int v1), (0, .ref A_t)]) hx hb dX2_judgeSupports_32 rfl hl (by decide) rfl (fun ls hl => ?_)
          refine lv_iload_n hx hb dX2_judgeSupports_33 rfl (lv_at hl 0 rfl) ?_
          have hJ2 : ∀ (v8 : Int32), bo v8 → ∀ (H : Heap) (locs : List Loc), va_P D vwCl [(A_t, .inr (2, [.ref A_t_board, .ref A_t_cut, .ref A_t_counts, .ref A_t_strength, .ref A_t_reason, .ref A_t_driver, .ref A_t_waits, .ref A_t_stands])), (A_t_board, .inr (0, [.ref A_t_board_numbers, .ref A_t_board_owners, .ref A_t_board_cells])), (A_t_board_numbers, .inl (cI, 10, .inl V_t_board_numbers)), (A_t_board_cells, .inl (cI, 63, .inl V_t_board_cells)), (A_t_cut, .inl (cI, 9, .inl f3)), (A_t_counts, .inl (cI, 9, .inl f2))] H → va_D A [(A_t, .inr (2, [.ref A_t_board, .ref A_t_cut, .ref A_t_counts, .ref A_t_strength, .ref A_t_reason, .ref A_t_driver, .ref A_t_waits, .ref A_t_stands])), (A_t_board, .inr (0, [.ref A_t_board_numbers, .ref A_t_board_owners, .ref A_t_board_cells])), (A_t_board_numbers, .inl (cI, 10, .inl V_t_board_numbers)), (A_t_board_cells, .inl (cI, 63, .inl V_t_board_cells)), (A_t_cut, .inl (cI, 9, .inl f3)), (A_t_counts, .inl (cI, 9, .inl f2))] → va_S A s.heap H locs → ∀ ls : Array Slot, lv_has ls 5 [(2, .int v6), (1, .int v1), (0, .ref A_t)] → g_X2_judgeSupports_J2 v6 f3 v1 f2 V_t_board_cells V_t_board_numbers (g_X2_judgeSupports_L1 V_t_board_numbers V_t_board_cells nf) v8 = some (f15, f16) → W p l e rX2_judgeSupports s m args below meth c H locs 0 0 Q (F0 m 50 ls [.int v8]) := by
            intro v8 hz_v8 H locs hP hD hS ls hl hg
            unfold g_X2_judgeSupports_J2 at hg
            refine lv_istore_n (lv' := [(3, .int v8), (2, .int v6), (1, .int v1), (0, .ref A_t)]) hx hb dX2_judgeSupports_50 rfl hl (by decide) rfl (fun ls hl => ?_)
            refine lv_iload_n hx hb dX2_judgeSupports_51 rfl (lv_at hl 1 rfl) ?_
            have hJ3 : ∀ (v10 : Int32), bo v10 → ∀ (H : Heap) (locs : List Loc), va_P D vwCl [(A_t, .inr (2, [.ref A_t_board, .ref A_t_cut, .ref A_t_counts, .ref A_t_strength, .ref A_t_reason, .ref A_t_driver, .ref A_t_waits, .ref A_t_stands])), (A_t_board, .inr (0, [.ref A_t_board_numbers, .ref A_t_board_owners, .ref A_t_board_cells])), (A_t_board_numbers, .inl (cI, 10, .inl V_t_board_numbers)), (A_t_board_cells, .inl (cI, 63, .inl V_t_board_cells)), (A_t_cut, .inl (cI, 9, .inl f3)), (A_t_counts, .inl (cI, 9, .inl f2))] H → va_D A [(A_t, .inr (2, [.ref A_t_board, .ref A_t_cut, .ref A_t_counts, .ref A_t_strength, .ref A_t_reason, .ref A_t_driver, .ref A_t_waits, .ref A_t_stands])), (A_t_board, .inr (0, [.ref A_t_board_numbers, .ref A_t_board_owners, .ref A_t_board_cells])), (A_t_board_numbers, .inl (cI, 10, .inl V_t_board_numbers)), (A_t_board_cells, .inl (cI, 63, .inl V_t_board_cells)), (A_t_cut, .inl (cI, 9, .inl f3)), (A_t_counts, .inl (cI, 9, .inl f2))] → va_S A s.heap H locs → ∀ ls : Array Slot, lv_has ls 5 [(3, .int v8), (1, .int v1), (0, .ref A_t)] → g_X2_judgeSupports_J3 v8 f3 v1 f2 (g_X2_judgeSupports_L1 V_t_board_numbers V_t_board_cells nf) v10 = some (f15, f16) → W p l e rX2_judgeSupports s m args below meth c H locs 0 0 Q (F0 m 68 ls [.int v10]) := by
              intro v10 hz_v10 H locs hP hD hS ls hl hg
              unfold g_X2_judgeSupports_J3 at hg
              refine lv_istore (lv' := [(4, .int v10), (3, .int v8), (1, .int v1), (0, .ref A_t)]) hx hb dX2_judgeSupports_68 hl (by decide) rfl (fun ls hl => ?_)
              refine lv_aload_n hx hb dX2_judgeSupports_70 rfl (lv_at hl 3 rfl) ?_
              refine xget (ci := 2) (C := RX2) (T := TX2) (N := 8) (v := .ref A_t_cut) hx hb hts in_X2_judgeSupports_X2 hown hK hP 0 rfl rfl 1 (by decide) wd_X2_judgeSupports_2 rfl dX2_judgeSupports_71 ?_
              refine lv_iload_n hx hb dX2_judgeSupports_74 rfl (lv_at hl 2 rfl) ?_
              refine lv_iload_n hx hb dX2_judgeSupports_75 rfl (lv_at hl 1 rfl) ?_
              have hJ4 : ∀ (v11 : Int32), bo v11 → ∀ (H : Heap) (locs : List Loc), va_P D vwCl [(A_t, .inr (2, [.ref A_t_board, .ref A_t_cut, .ref A_t_counts, .ref A_t_strength, .ref A_t_reason, .ref A_t_driver, .ref A_t_waits, .ref A_t_stands])), (A_t_board, .inr (0, [.ref A_t_board_numbers, .ref A_t_board_owners, .ref A_t_board_cells])), (A_t_board_numbers, .inl (cI, 10, .inl V_t_board_numbers)), (A_t_board_cells, .inl (cI, 63, .inl V_t_board_cells)), (A_t_cut, .inl (cI, 9, .inl f3)), (A_t_counts, .inl (cI, 9, .inl f2))] H → va_D A [(A_t, .inr (2, [.ref A_t_board, .ref A_t_cut, .ref A_t_counts, .ref A_t_strength, .ref A_t_reason, .ref A_t_driver, .ref A_t_waits, .ref A_t_stands])), (A_t_board, .inr (0, [.ref A_t_board_numbers, .ref A_t_board_owners, .ref A_t_board_cells])), (A_t_board_numbers, .inl (cI, 10, .inl V_t_board_numbers)), (A_t_board_cells, .inl (cI, 63, .inl V_t_board_cells)), (A_t_cut, .inl (cI, 9, .inl f3)), (A_t_counts, .inl (cI, 9, .inl f2))] → va_S A s.heap H locs → ∀ ls : Array Slot, lv_has ls 5 [(4, .int v10), (3, .int v8), (1, .int v1), (0, .ref A_t)] → g_X2_judgeSupports_J4 f3 v1 v10 f2 v8 (g_X2_judgeSupports_L1 V_t_board_numbers V_t_board_cells nf) v11 = some (f15, f16) → W p l e rX2_judgeSupports s m args below meth c H locs 0 0 Q (F0 m 84 ls [.int v11, .int v1, .ref A_t_cut]) := by
                intro v11 hz_v11 H locs hP hD hS ls hl hg
                unfold g_X2_judgeSupports_J4 at hg
                obtain ⟨f12, hq, hg⟩ := bind_ex hg
                refine callWNv (As := [.ref A_t_cut, .int v1, .int v11]) (rest := []) (wr := [(A_t, .inr (2, [.ref A_t_board, .ref A_t_cut, .ref A_t_counts, .ref A_t_strength, .ref A_t_reason, .ref A_t_driver, .ref A_t_waits, .ref A_t_stands])), (A_t_board, .inr (0, [.ref A_t_board_numbers, .ref A_t_board_owners, .ref A_t_board_cells])), (A_t_board_numbers, .inl (cI, 10, .inl V_t_board_numbers)), (A_t_board_cells, .inl (cI, 63, .inl V_t_board_cells)), (A_t_counts, .inl (cI, 9, .inl f2))]) S hK hP hD hS hA (c_X4_enter l D cI cZ cB cJ A_t_cut 9 _ f3 v1 v11 f12 hq) [4] [0, 1, 2, 3, 5] rfl rfl (by decide +kernel) (by decide +kernel) (by decide +kernel) ⟨va_cnB 3 hts gX2_judgeSupports_X4_enter_n76 rfl rfl rfl (hK.2 _ (List.mem_of_getElem? (i := 5) rfl)) (hts _ wd_X2_judgeSupports_35) hd_X4_enter ⟨Nat.le_of_ble_eq_true rfl, Nat.le_of_ble_eq_true rfl⟩, hts _ wd_X2_judgeSupports_34, trivial⟩ rfl hl.1 rfl (Nat.le_of_ble_eq_true rfl) dX2_judgeSupports_84 ⟨Nat.zero_le _, Nat.zero_le _⟩ (fun H locs hP hD hS => ?_)
                replace hP : va_P D vwCl [(A_t, .inr (2, [.ref A_t_board, .ref A_t_cut, .ref A_t_counts, .ref A_t_strength, .ref A_t_reason, .ref A_t_driver, .ref A_t_waits, .ref A_t_stands])), (A_t_board, .inr (0, [.ref A_t_board_numbers, .ref A_t_board_owners, .ref A_t_board_cells])), (A_t_board_numbers, .inl (cI, 10, .inl V_t_board_numbers)), (A_t_board_cells, .inl (cI, 63, .inl V_t_board_cells)), (A_t_counts, .inl (cI, 9, .inl f2)), (A_t_cut, .inl (cI, 9, .inl f12))] H := hP
                replace hD : va_D A [(A_t, .inr (2, [.ref A_t_board, .ref A_t_cut, .ref A_t_counts, .ref A_t_strength, .ref A_t_reason, .ref A_t_driver, .ref A_t_waits, .ref A_t_stands])), (A_t_board, .inr (0, [.ref A_t_board_numbers, .ref A_t_board_owners, .ref A_t_board_cells])), (A_t_board_numbers, .inl (cI, 10, .inl V_t_board_numbers)), (A_t_board_cells, .inl (cI, 63, .inl V_t_board_cells)), (A_t_counts, .inl (cI, 9, .inl f2)), (A_t_cut, .inl (cI, 9, .inl f12))] := hD
                refine lv_aload_n hx hb dX2_judgeSupports_87 rfl (lv_at hl 3 rfl) ?_
                refine xget (ci := 2) (C := RX2) (T := TX2) (N := 8) (v := .ref A_t_counts) hx hb hts in_X2_judgeSupports_X2 hown hK hP 0 rfl rfl 2 (by decide) wd_X2_judgeSupports_3 rfl dX2_judgeSupports_88 ?_
                refine lv_iload_n hx hb dX2_judgeSupports_91 rfl (lv_at hl 2 rfl) ?_
                refine lv_iload hx hb dX2_judgeSupports_92 (lv_at hl 0 rfl) ?_
                have hJ5 : ∀ (v13 : Int32), bo v13 → ∀ (H : Heap) (locs : List Loc), va_P D vwCl [(A_t, .inr (2, [.ref A_t_board, .ref A_t_cut, .ref A_t_counts, .ref A_t_strength, .ref A_t_reason, .ref A_t_driver, .ref A_t_waits, .ref A_t_stands])), (A_t_board, .inr (0, [.ref A_t_board_numbers, .ref A_t_board_owners, .ref A_t_board_cells])), (A_t_board_numbers, .inl (cI, 10, .inl V_t_board_numbers)), (A_t_board_cells, .inl (cI, 63, .inl V_t_board_cells)), (A_t_counts, .inl (cI, 9, .inl f2)), (A_t_cut, .inl (cI, 9, .inl f12))] H → va_D A [(A_t, .inr (2, [.ref A_t_board, .ref A_t_cut, .ref A_t_counts, .ref A_t_strength, .ref A_t_reason, .ref A_t_driver, .ref A_t_waits, .ref A_t_stands])), (A_t_board, .inr (0, [.ref A_t_board_numbers, .ref A_t_board_owners, .ref A_t_board_cells])), (A_t_board_numbers, .inl (cI, 10, .inl V_t_board_numbers)), (A_t_board_cells, .inl (cI, 63, .inl V_t_board_cells)), (A_t_counts, .inl (cI, 9, .inl f2)), (A_t_cut, .inl (cI, 9, .inl f12))] → va_S A s.heap H locs → ∀ ls : Array Slot, lv_has ls 5 [(1, .int v1), (0, .ref A_t)] → g_X2_judgeSupports_J5 f2 v1 f12 (g_X2_judgeSupports_L1 V_t_board_numbers V_t_board_cells nf) v13 = some (f15, f16) → W p l e rX2_judgeSupports s m args below meth c H locs 0 0 Q (F0 m 106 ls [.int v13, .int v1, .ref A_t_counts]) := by
                  intro v13 hz_v13 H locs hP hD hS ls hl hg
                  unfold g_X2_judgeSupports_J5 at hg
                  obtain ⟨f14, hq, hg⟩ := bind_ex hg
                  refine callWNv (As := [.ref A_t_counts, .int v1, .int v13]) (rest := []) (wr := [(A_t, .inr (2, [.ref A_t_board, .ref A_t_cut, .ref A_t_counts, .ref A_t_strength, .ref A_t_reason, .ref A_t_driver, .ref A_t_waits, .ref A_t_stands])), (A_t_board, .inr (0, [.ref A_t_board_numbers, .ref A_t_board_owners, .ref A_t_board_cells])), (A_t_board_numbers, .inl (cI, 10, .inl V_t_board_numbers)), (A_t_board_cells, .inl (cI, 63, .inl V_t_board_cells)), (A_t_cut, .inl (cI, 9, .inl f12))]) S hK hP hD hS hA (c_X4_enter l D cI cZ cB cJ A_t_counts 9 _ f2 v1 v13 f14 hq) [4] [0, 1, 2, 3, 5] rfl rfl (by decide +kernel) (by decide +kernel) (by decide +kernel) ⟨va_cnB 3 hts gX2_judgeSupports_X4_enter_n76 rfl rfl rfl (hK.2 _ (List.mem_of_getElem? (i := 5) rfl)) (hts _ wd_X2_judgeSupports_35) hd_X4_enter ⟨Nat.le_of_ble_eq_true rfl, Nat.le_of_ble_eq_true rfl⟩, hts _ wd_X2_judgeSupports_34, trivial⟩ rfl hl.1 rfl (Nat.le_of_ble_eq_true rfl) dX2_judgeSupports_106 ⟨Nat.zero_le _, Nat.zero_le _⟩ (fun H locs hP hD hS => ?_)
                  replace hP : va_P D vwCl [(A_t, .inr (2, [.ref A_t_board, .ref A_t_cut, .ref A_t_counts, .ref A_t_strength, .ref A_t_reason, .ref A_t_driver, .ref A_t_waits, .ref A_t_stands])), (A_t_board, .inr (0, [.ref A_t_board_numbers, .ref A_t_board_owners, .ref A_t_board_cells])), (A_t_board_numbers, .inl (cI, 10, .inl V_t_board_numbers)), (A_t_board_cells, .inl (cI, 63, .inl V_t_board_cells)), (A_t_cut, .inl (cI, 9, .inl f12)), (A_t_counts, .inl (cI, 9, .inl f14))] H := hP
                  replace hD : va_D A [(A_t, .inr (2, [.ref A_t_board, .ref A_t_cut, .ref A_t_counts, .ref A_t_strength, .ref A_t_reason, .ref A_t_driver, .ref A_t_waits, .ref A_t_stands])), (A_t_board, .inr (0, [.ref A_t_board_numbers, .ref A_t_board_owners, .ref A_t_board_cells])), (A_t_board_numbers, .inl (cI, 10, .inl V_t_board_numbers)), (A_t_board_cells, .inl (cI, 63, .inl V_t_board_cells)), (A_t_cut, .inl (cI, 9, .inl f12)), (A_t_counts, .inl (cI, 9, .inl f14))] := hD
                  refine lv_iinc (v := (v1 + 1)) (lv' := [(1, .int (v1 + 1)), (0, .ref A_t)]) hx hb dX2_judgeSupports_109 hl (k := 0) rfl rfl (by decide) rfl (fun ls hl => ?_)
                  refine lv_goto (tgt := 2) hx hb dX2_judgeSupports_112 (by decide) ?_
                  exact ih _ _ _ _ _ hP hD hS _ (lv_sub hl [0, 1] rfl) hg
                refine lv_if_eq (tgt := 105) hx hb dX2_judgeSupports_94 (by decide) (fun hc => ?_) (fun hc => ?_)
                · replace hg := if_yes hg hc
                  refine lv_iconst (v := 0) hx hb dX2_judgeSupports_105 (by decide) ?_
                  exact hJ5 _ bo_0 _ _ hP hD hS _ (lv_sub hl [2, 3] rfl) hg
                · replace hg := if_no hg hc
                  refine lv_iload_n hx hb dX2_judgeSupports_97 rfl (lv_at hl 1 rfl) ?_
                  refine lv_if_ne (tgt := 105) hx hb dX2_judgeSupports_98 (by decide) (fun hc => ?_) (fun hc => ?_)
                  · replace hg := if_no hg hc
                    refine lv_iconst (v := 0) hx hb dX2_judgeSupports_105 (by decide) ?_
                    exact hJ5 _ bo_0 _ _ hP hD hS _ (lv_sub hl [2, 3] rfl) hg
                  · replace hg := if_yes hg hc
                    refine lv_iconst (v := 1) hx hb dX2_judgeSupports_101 (by decide) ?_
                    refine lv_goto (tgt := 106) hx hb dX2_judgeSupports_102 (by decide) ?_
                    exact hJ5 _ bo_1 _ _ hP hD hS _ (lv_sub hl [2, 3] rfl) hg
              refine lv_if_eq (tgt := 83) hx hb dX2_judgeSupports_76 (by decide) (fun hc => ?_) (fun hc => ?_)
              · replace hg := if_yes hg hc
                refine lv_iconst (v := 0) hx hb dX2_judgeSupports_83 (by decide) ?_
                exact hJ4 _ bo_0 _ _ hP hD hS _ (lv_sub hl [0, 1, 2, 3] rfl) hg
              · replace hg := if_no hg hc
                refine lv_iconst (v := 1) hx hb dX2_judgeSupports_79 (by decide) ?_
                refine lv_goto (tgt := 84) hx hb dX2_judgeSupports_80 (by decide) ?_
                exact hJ4 _ bo_1 _ _ hP hD hS _ (lv_sub hl [0, 1, 2, 3] rfl) hg
            refine lv_if_eq (tgt := 67) hx hb dX2_judgeSupports_52 (by decide) (fun hc => ?_) (fun hc => ?_)
            · replace hg := if_yes hg hc
              refine lv_iconst (v := 0) hx hb dX2_judgeSupports_67 (by decide) ?_
              exact hJ3 _ bo_0 _ _ hP hD hS _ (lv_sub hl [0, 2, 3] rfl) hg
            · replace hg := if_no hg hc
              refine lv_aload_n hx hb dX2_judgeSupports_55 rfl (lv_at hl 3 rfl) ?_
              refine lv_iload_n hx hb dX2_judgeSupports_56 rfl (lv_at hl 2 rfl) ?_
              obtain ⟨v9, hq, hg⟩ := bind_ex hg
              refine callRVz (As := [.int v1]) (rest := []) S hK hP (c_X2_hasUse l D cI cZ cB cJ A_t A_t_board A_t_cut A_t_counts A_t_strength A_t_reason A_t_driver A_t_waits A_t_stands A_t_board_numbers A_t_board_owners A_t_board_cells V_t_board_cells V_t_board_numbers v1 v9 hq) [0, 1, 3, 2] rfl (cwV 1 hts gX2_judgeSupports_X2_hasUse rfl rfl rfl hd_X2_hasUse ⟨Nat.le_of_ble_eq_true rfl, Nat.le_of_ble_eq_true rfl⟩) rfl rfl rfl hl.1 rfl (Nat.le_of_ble_eq_true rfl) dX2_judgeSupports_57 ⟨Nat.zero_le _, Nat.zero_le _⟩ (fun hz_v9 => ?_)
              refine lv_if_eq (tgt := 67) hx hb dX2_judgeSupports_60 (by decide) (fun hc => ?_) (fun hc => ?_)
              · replace hg := if_yes hg hc
                refine lv_iconst (v := 0) hx hb dX2_judgeSupports_67 (by decide) ?_
                exact hJ3 _ bo_0 _ _ hP hD hS _ (lv_sub hl [0, 2, 3] rfl) hg
              · replace hg := if_no hg hc
                refine lv_iconst (v := 1) hx hb dX2_judgeSupports_63 (by decide) ?_
                refine lv_goto (tgt := 68) hx hb dX2_judgeSupports_64 (by decide) ?_
                exact hJ3 _ bo_1 _ _ hP hD hS _ (lv_sub hl [0, 2, 3] rfl) hg
          refine lv_if_eq (tgt := 49) hx hb dX2_judgeSupports_34 (by decide) (fun hc => ?_) (fun hc => ?_)
          · replace hg := if_yes hg hc
            refine lv_iconst (v := 0) hx hb dX2_judgeSupports_49 (by decide) ?_
            exact hJ2 _ bo_0 _ _ hP hD hS _ (lv_sub hl [0, 1, 2] rfl) hg
          · replace hg := if_no hg hc
            refine lv_aload_n hx hb dX2_judgeSupports_37 rfl (lv_at hl 2 rfl) ?_
            refine lv_iload_n hx hb dX2_judgeSupports_38 rfl (lv_at hl 1 rfl) ?_
            obtain ⟨v7, hq, hg⟩ := bind_ex hg
            refine callRVz (As := [.int v1]) (rest := []) S hK hP (c_X2_isCutOff l D cI cZ cB cJ A_t A_t_board A_t_cut A_t_counts A_t_strength A_t_reason A_t_driver A_t_waits A_t_stands A_t_board_numbers A_t_board_owners A_t_board_cells V_t_board_numbers V_t_board_cells v1 v7 hq) [0, 1, 2, 3] rfl (cwV 1 hts gX2_judgeSupports_X2_isCutOff rfl rfl rfl hd_X2_isCutOff ⟨Nat.le_of_ble_eq_true rfl, Nat.le_of_ble_eq_true rfl⟩) rfl rfl rfl hl.1 rfl (Nat.le_of_ble_eq_true rfl) dX2_judgeSupports_39 ⟨Nat.zero_le _, Nat.zero_le _⟩ (fun hz_v7 => ?_)
            refine lv_if_eq (tgt := 49) hx hb dX2_judgeSupports_42 (by decide) (fun hc => ?_) (fun hc => ?_)
            · replace hg := if_yes hg hc
              refine lv_iconst (v := 0) hx hb dX2_judgeSupports_49 (by decide) ?_
              exact hJ2 _ bo_0 _ _ hP hD hS _ (lv_sub hl [0, 1, 2] rfl) hg
            · replace hg := if_no hg hc
              refine lv_iconst (v := 1) hx hb dX2_judgeSupports_45 (by decide) ?_
              refine lv_goto (tgt := 50) hx hb dX2_judgeSupports_46 (by decide) ?_
              exact hJ2 _ bo_1 _ _ hP hD hS _ (lv_sub hl [0, 1, 2] rfl) hg
        refine lv_icmp_ne (tgt := 31) hx hb dX2_judgeSupports_24 (by decide) (fun hc => ?_) (fun hc => ?_)
        · replace hg := if_no hg hc
          refine lv_iconst (v := 0) hx hb dX2_judgeSupports_31 (by decide) ?_
          exact hJ1 _ bo_0 _ _ hP hD hS _ (lv_sub hl [0, 1] rfl) hg
        · replace hg := if_yes hg hc
          refine lv_iconst (v := 1) hx hb dX2_judgeSupports_27 (by decide) ?_
          refine lv_goto (tgt := 32) hx hb dX2_judgeSupports_28 (by decide) ?_
          exact hJ1 _ bo_1 _ _ hP hD hS _ (lv_sub hl [0, 1] rfl) hg
  exact L FU _ _ _ _ _ hP hD hS _ (lv_sub hl [0, 1] rfl) hL
theorem hd_X4_entry : yX4_entry.cls ≠ "java/lang/invoke/MethodHandle" ∧ yX4_entry.cls ≠ "java/lang/invoke/VarHandle" ∧ (parseMethodDescriptor yX4_entry.desc).map (fun d => d.parameters.length) = some 2 := by decide +kernel
abbrev rX4_entry : Room := { frames := 0, cells := 0, slots := 0, locals := 0 }
set_option maxHeartbeats 4000000 in
set_option maxRecDepth 100000 in
theorem c_X4_entry (l : Launch) (D : va_G) (cI cZ cB cJ : ClassId) (A_p0 : Nat) (n_p0 : Nat) (V_p0 : Nat → Int32) (x2 : Int32) (r0 : Int32) (hg : g_X4_entry n_p0 V_p0 x2 = some r0) : Met l yX4_entry wsX4_entry rX4_entry (PcR D cI cZ cB cJ [(A_p0, .inl (cI, n_p0, .inl V_p0))] [.ref A_p0, .int x2]) (vp_Si (fun r' => r' = r0 ∧ True)) 0 0 (fun _ => False) := by
  refine bodyRi (cc := cX4_entry) (maxL := 2) (lv := [(0, .ref A_p0), (1, .int x2)]) (by decide) rfl (Nat.le_of_ble_eq_true rfl) rfl ?_
  intro p e s m args below meth c Q hx hb hml hown hts hP hK fin ls hl
  replace hown : s.vm.findClass RX4 = some m.cls := hown
  have S : CallFix p m c cX4_entry 2 s args wsX4_entry RX4 := ⟨hx, hb, hml, hown, hts⟩
  unfold g_X4_entry at hg
  refine lv_iload_n hx hb dX4_entry_0 rfl (lv_at hl 1 rfl) ?_
  refine lv_if_lt (tgt := 16) hx hb dX4_entry_1 (by decide) (fun hc => ?_) (fun hc => ?_)
  · replace hg := if_yes hg hc
    refine lv_iconst (v := (-1)) hx hb dX4_entry_16 (by decide) ?_
    cases hg
    exact fin _ _ dX4_entry_17
  · replace hg := if_no hg hc
    refine lv_iload_n hx hb dX4_entry_4 rfl (lv_at hl 1 rfl) ?_
    refine lv_aload_n hx hb dX4_entry_5 rfl (lv_at hl 0 rfl) ?_
    refine xalen (v := (Int32.ofNat n_p0)) hx hb hK hP 0 rfl rfl dX4_entry_6 ?_
    refine lv_icmp_ge (tgt := 16) hx hb dX4_entry_7 (by decide) (fun hc => ?_) (fun hc => ?_)
    · replace hg := if_yes hg hc
      refine lv_iconst (v := (-1)) hx hb dX4_entry_16 (by decide) ?_
      cases hg
      exact fin _ _ dX4_entry_17
    · replace hg := if_no hg hc
      refine lv_aload_n hx hb dX4_entry_10 rfl (lv_at hl 0 rfl) ?_
      refine lv_iload_n hx hb dX4_entry_11 rfl (lv_at hl 1 rfl) ?_
      obtain ⟨v1, hin, hv, hg⟩ := rdA_ex hg
      refine xiald hx hb hK hP 0 rfl hin hv dX4_entry_12 ?_
      refine lv_goto (tgt := 17) hx hb dX4_entry_13 (by decide) ?_
      cases hg
      exact fin _ _ dX4_entry_17
theorem hd_X2_supportsOf : yX2_supportsOf.cls = RX2 ∧ yX2_supportsOf.cls ≠ "java/lang/invoke/MethodHandle" ∧ yX2_supportsOf.cls ≠ "java/lang/invoke/VarHandle" ∧ (parseMethodDescriptor yX2_supportsOf.desc).map (fun d => d.parameters.length) = some 2 := by decide +kernel
theorem in_X2_supportsOf_X2 : ∀ w ∈ u_ws RX2 TX2 8, w ∈ wsX2_supportsOf := fun _ h => List.mem_cons_of_mem _ (List.mem_append_left _ (List.mem_append_right _ h))
theorem wd_X2_supportsOf_1 : Cond.fieldLink RX2 12 "FogOrders$Opening" "board" "LFogOrders$Board;" ∈ wsX2_supportsOf := List.mem_of_getElem? (i := 1) rfl
theorem wd_X2_supportsOf_2 : Cond.fieldLink RX2 22 "FogOrders$Opening" "counts" "[I" ∈ wsX2_supportsOf := List.mem_of_getElem? (i := 2) rfl
theorem wd_X2_supportsOf_15 : Cond.initialized RX4 ∈ wsX2_supportsOf := List.mem_of_getElem? (i := 15) rfl
theorem wd_X2_supportsOf_14 : Cond.static yX4_entry ∈ wsX2_supportsOf := List.mem_of_getElem? (i := 14) rfl
abbrev rX2_supportsOf : Room := { frames := 1, cells := 0, slots := 0, locals := 23 }
set_option maxHeartbeats 4000000 in
set_option maxRecDepth 100000 in
theorem c_X2_supportsOf (l : Launch) (D : va_G) (cI cZ cB cJ : ClassId) (A_t : Nat) (A_t_board : Nat) (A_t_cut : Nat) (A_t_counts : Nat) (A_t_strength : Nat) (A_t_reason : Nat) (A_t_driver : Nat) (A_t_waits : Nat) (A_t_stands : Nat) (A_t_board_numbers : Nat) (A_t_board_owners : Nat) (A_t_board_cells : Nat) (V_t_board_numbers : Nat → Int32) (V_t_board_cells : Nat → Int32) (V_t_counts : Nat → Int32) (x1 : Int32) (x2 : Int32) (r0 : Int32) (hg : g_X2_supportsOf V_t_board_numbers V_t_board_cells V_t_counts x1 x2 = some r0) : Met l yX2_supportsOf wsX2_supportsOf rX2_supportsOf (PcR D cI cZ cB cJ [(A_t, .inr (2, [.ref A_t_board, .ref A_t_cut, .ref A_t_counts, .ref A_t_strength, .ref A_t_reason, .ref A_t_driver, .ref A_t_waits, .ref A_t_stands])), (A_t_board, .inr (0, [.ref A_t_board_numbers, .ref A_t_board_owners, .ref A_t_board_cells])), (A_t_board_numbers, .inl (cI, 10, .inl V_t_board_numbers)), (A_t_board_cells, .inl (cI, 63, .inl V_t_board_cells)), (A_t_counts, .inl (cI, 9, .inl V_t_counts))] [.ref A_t, .int x1, .int x2]) (vp_Si (fun r' => r' = r0 ∧ True)) 0 0 (fun _ => False) := by
  refine bodyRi (cc := cX2_supportsOf) (maxL := 6) (lv := [(0, .ref A_t), (1, .int x1), (2, .int x2)]) (by decide) rfl (Nat.le_of_ble_eq_true rfl) rfl ?_
  intro p e s m args below meth c Q hx hb hml hown hts hP hK fin ls hl
  replace hown : s.vm.findClass RX2 = some m.cls := hown
  have S : CallFix p m c cX2_supportsOf 6 s args wsX2_supportsOf RX2 := ⟨hx, hb, hml, hown, hts⟩
  unfold g_X2_supportsOf at hg
  refine lv_iconst (v := 0) hx hb dX2_supportsOf_0 (by decide) ?_
  refine lv_istore_n (lv' := [(3, .int 0), (0, .ref A_t), (1, .int x1), (2, .int x2)]) hx hb dX2_supportsOf_1 rfl hl (by decide) rfl (fun ls hl => ?_)
  refine lv_iconst (v := 0) hx hb dX2_supportsOf_2 (by decide) ?_
  refine lv_istore (lv' := [(4, .int 0), (3, .int 0), (0, .ref A_t), (1, .int x1), (2, .int x2)]) hx hb dX2_supportsOf_3 hl (by decide) rfl (fun ls hl => ?_)
  obtain ⟨v8, hL, hg⟩ := bind_ex hg
  have kx : ∀ ls : Array Slot, lv_has ls 6 [(3, .int v8)] → W p l e rX2_supportsOf s m args below meth c s.heap [] 0 0 Q (F0 m 85 ls []) := by
    intro ls hl
    refine lv_iload_n hx hb dX2_supportsOf_85 rfl (lv_at hl 0 rfl) ?_
    cases hg
    exact fin _ _ dX2_supportsOf_86
  have L : ∀ (nf : Nat) (v1 : Int32) (v2 : Int32), ∀ ls : Array Slot, lv_has ls 6 [(4, .int v2), (3, .int v1), (0, .ref A_t), (1, .int x1), (2, .int x2)] → g_X2_supportsOf_L1 V_t_board_numbers V_t_board_cells x1 x2 V_t_counts nf v1 v2 = some v8 → W p l e rX2_supportsOf s m args below meth c s.heap [] 0 0 Q (F0 m 5 ls []) := by
    intro nf
    induction nf with
    | zero =>
      intro v1 v2 ls hl hg
      exact no_some hg
    | succ nf ih =>
      intro v1 v2 ls hl hg
      rw [g_X2_supportsOf_L1] at hg
      refine lv_iload hx hb dX2_supportsOf_5 (lv_at hl 0 rfl) ?_
      refine lv_aload_n hx hb dX2_supportsOf_7 rfl (lv_at hl 2 rfl) ?_
      refine xget (ci := 2) (C := RX2) (T := TX2) (N := 8) (v := .ref A_t_board) hx hb hts in_X2_supportsOf_X2 hown hK hP 0 rfl rfl 0 (by decide) wd_X2_supportsOf_1 rfl dX2_supportsOf_8 ?_
      refine lv_iconst (v := 0) hx hb dX2_supportsOf_11 (by decide) ?_
      obtain ⟨v3, hq, hg⟩ := bind_ex hg
      refine callRVi (As := [.int 0]) (rest := [.int v2]) S hK hP (c_X0_number l D cI cZ cB cJ A_t_board A_t_board_numbers A_t_board_owners A_t_board_cells V_t_board_numbers 0 v3 hq) [1, 2] rfl (cwV 1 hts gX2_supportsOf_X0_number rfl rfl rfl hd_X0_number ⟨Nat.le_of_ble_eq_true rfl, Nat.le_of_ble_eq_true rfl⟩) rfl rfl rfl hl.1 rfl (Nat.le_of_ble_eq_true rfl) dX2_supportsOf_12 ⟨Nat.zero_le _, Nat.zero_le _⟩ ?_
      refine lv_icmp_ge (tgt := 85) hx hb dX2_supportsOf_15 (by decide) (fun hc => ?_) (fun hc => ?_)
      · replace hg := if_yes hg hc
        cases hg
        exact kx _ (lv_sub hl [1] rfl)
      · replace hg := if_no hg hc
        refine lv_aload_n hx hb dX2_supportsOf_18 rfl (lv_at hl 2 rfl) ?_
        refine xget (ci := 2) (C := RX2) (T := TX2) (N := 8) (v := .ref A_t_board) hx hb hts in_X2_supportsOf_X2 hown hK hP 0 rfl rfl 0 (by decide) wd_X2_supportsOf_1 rfl dX2_supportsOf_19 ?_
        refine lv_iload hx hb dX2_supportsOf_22 (lv_at hl 0 rfl) ?_
        refine lv_iconst (v := 4) hx hb dX2_supportsOf_24 (by decide) ?_
        obtain ⟨v4, hq, hg⟩ := bind_ex hg
        refine callRVi (As := [.int v2, .int 4]) (rest := []) S hK hP (c_X0_of l D cI cZ cB cJ A_t_board A_t_board_numbers A_t_board_owners A_t_board_cells V_t_board_cells v2 4 v4 hq) [1, 3] rfl (cwV 2 hts gX2_supportsOf_X0_of rfl rfl rfl hd_X0_of ⟨Nat.le_of_ble_eq_true rfl, Nat.le_of_ble_eq_true rfl⟩) rfl rfl rfl hl.1 rfl (Nat.le_of_ble_eq_true rfl) dX2_supportsOf_25 ⟨Nat.zero_le _, Nat.zero_le _⟩ ?_
        refine lv_iload_n hx hb dX2_supportsOf_28 rfl (lv_at hl 3 rfl) ?_
        have hJ1 : ∀ (v6 : Int32), bo v6 → ∀ ls : Array Slot, lv_has ls 6 [(4, .int v2), (3, .int v1), (0, .ref A_t), (1, .int x1), (2, .int x2)] → g_X2_supportsOf_J1 v1 v2 V_t_counts (g_X2_supportsOf_L1 V_t_board_numbers V_t_board_cells x1 x2 V_t_counts nf) v6 = some v8 → W p l e rX2_supportsOf s m args below meth c s.heap [] 0 0 Q (F0 m 51 ls [.int v6]) := by
          intro v6 hz_v6 ls hl hg
          unfold g_X2_supportsOf_J1 at hg
          refine lv_istore (lv' := [(5, .int v6), (4, .int v2), (3, .int v1), (0, .ref A_t), (1, .int x1), (2, .int x2)]) hx hb dX2_supportsOf_51 hl (by decide) rfl (fun ls hl => ?_)
          refine lv_iload_n hx hb dX2_supportsOf_53 rfl (lv_at hl 2 rfl) ?_
          refine lv_iload hx hb dX2_supportsOf_54 (lv_at hl 0 rfl) ?_
          refine lv_if_eq (tgt := 76) hx hb dX2_supportsOf_56 (by decide) (fun hc => ?_) (fun hc => ?_)
          · replace hg := if_yes hg hc
            refine lv_iconst (v := 0) hx hb dX2_supportsOf_76 (by decide) ?_
            refine lv_iadd hx hb dX2_supportsOf_77 ?_
            refine lv_istore_n (lv' := [(3, .int (v1 + 0)), (5, .int v6), (4, .int v2), (0, .ref A_t), (1, .int x1), (2, .int x2)]) hx hb dX2_supportsOf_78 rfl hl (by decide) rfl (fun ls hl => ?_)
            refine lv_iinc (v := (v2 + 1)) (lv' := [(4, .int (v2 + 1)), (3, .int (v1 + 0)), (5, .int v6), (0, .ref A_t), (1, .int x1), (2, .int x2)]) hx hb dX2_supportsOf_79 hl (k := 2) rfl rfl (by decide) rfl (fun ls hl => ?_)
            refine lv_goto (tgt := 5) hx hb dX2_supportsOf_82 (by decide) ?_
            exact ih _ _ _ (lv_sub hl [0, 1, 3, 4, 5] rfl) hg
          · replace hg := if_no hg hc
            refine lv_aload_n hx hb dX2_supportsOf_59 rfl (lv_at hl 3 rfl) ?_
            refine xget (ci := 2) (C := RX2) (T := TX2) (N := 8) (v := .ref A_t_counts) hx hb hts in_X2_supportsOf_X2 hown hK hP 0 rfl rfl 2 (by decide) wd_X2_supportsOf_2 rfl dX2_supportsOf_60 ?_
            refine lv_iload hx hb dX2_supportsOf_63 (lv_at hl 1 rfl) ?_
            obtain ⟨v7, hq, hg⟩ := bind_ex hg
            refine callRNi (As := [.ref A_t_counts, .int v2]) (rest := [.int v1]) S hK hP (c_X4_entry l D cI cZ cB cJ A_t_counts 9 V_t_counts v2 v7 hq) [4] rfl ⟨va_cnB 2 hts gX2_supportsOf_X4_entry_n89 rfl rfl rfl (hK.2 _ (List.mem_of_getElem? (i := 6) rfl)) (hts _ wd_X2_supportsOf_15) hd_X4_entry ⟨Nat.le_of_ble_eq_true rfl, Nat.le_of_ble_eq_true rfl⟩, hts _ wd_X2_supportsOf_14, trivial⟩ rfl hl.1 rfl (Nat.le_of_ble_eq_true rfl) dX2_supportsOf_65 ⟨Nat.zero_le _, Nat.zero_le _⟩ ?_
            refine lv_iconst (v := 1) hx hb dX2_supportsOf_68 (by decide) ?_
            refine lv_icmp_ne (tgt := 76) hx hb dX2_supportsOf_69 (by decide) (fun hc => ?_) (fun hc => ?_)
            · replace hg := if_no hg hc
              refine lv_iconst (v := 0) hx hb dX2_supportsOf_76 (by decide) ?_
              refine lv_iadd hx hb dX2_supportsOf_77 ?_
              refine lv_istore_n (lv' := [(3, .int (v1 + 0)), (5, .int v6), (4, .int v2), (0, .ref A_t), (1, .int x1), (2, .int x2)]) hx hb dX2_supportsOf_78 rfl hl (by decide) rfl (fun ls hl => ?_)
              refine lv_iinc (v := (v2 + 1)) (lv' := [(4, .int (v2 + 1)), (3, .int (v1 + 0)), (5, .int v6), (0, .ref A_t), (1, .int x1), (2, .int x2)]) hx hb dX2_supportsOf_79 hl (k := 2) rfl rfl (by decide) rfl (fun ls hl => ?_)
              refine lv_goto (tgt := 5) hx hb dX2_supportsOf_82 (by decide) ?_
              exact ih _ _ _ (lv_sub hl [0, 1, 3, 4, 5] rfl) hg
            · replace hg := if_yes hg hc
              refine lv_iconst (v := 1) hx hb dX2_supportsOf_72 (by decide) ?_
              refine lv_goto (tgt := 77) hx hb dX2_supportsOf_73 (by decide) ?_
              refine lv_iadd hx hb dX2_supportsOf_77 ?_
              refine lv_istore_n (lv' := [(3, .int (v1 + 1)), (5, .int v6), (4, .int v2), (0, .ref A_t), (1, .int x1), (2, .int x2)]) hx hb dX2_supportsOf_78 rfl hl (by decide) rfl (fun ls hl => ?_)
              refine lv_iinc (v := (v2 + 1)) (lv' := [(4, .int (v2 + 1)), (3, .int (v1 + 1)), (5, .int v6), (0, .ref A_t), (1, .int x1), (2, .int x2)]) hx hb dX2_supportsOf_79 hl (k := 2) rfl rfl (by decide) rfl (fun ls hl => ?_)
              refine lv_goto (tgt := 5) hx hb dX2_supportsOf_82 (by decide) ?_
              exact ih _ _ _ (lv_sub hl [0, 1, 3, 4, 5] rfl) hg
        refine lv_icmp_ne (tgt := 50) hx hb dX2_supportsOf_29 (by decide) (fun hc => ?_) (fun hc => ?_)
        · replace hg := if_no hg hc
          refine lv_iconst (v := 0) hx hb dX2_supportsOf_50 (by decide) ?_
          exact hJ1 _ bo_0 _ (lv_sub hl [0, 1, 2, 3, 4] rfl) hg
        · replace hg := if_yes hg hc
          refine lv_aload_n hx hb dX2_supportsOf_32 rfl (lv_at hl 2 rfl) ?_
          refine xget (ci := 2) (C := RX2) (T := TX2) (N := 8) (v := .ref A_t_board) hx hb hts in_X2_supportsOf_X2 hown hK hP 0 rfl rfl 0 (by decide) wd_X2_supportsOf_1 rfl dX2_supportsOf_33 ?_
          refine lv_iload hx hb dX2_supportsOf_36 (lv_at hl 0 rfl) ?_
          refine lv_iconst (v := 3) hx hb dX2_supportsOf_38 (by decide) ?_
          obtain ⟨v5, hq, hg⟩ := bind_ex hg
          refine callRVi (As := [.int v2, .int 3]) (rest := []) S hK hP (c_X0_of l D cI cZ cB cJ A_t_board A_t_board_numbers A_t_board_owners A_t_board_cells V_t_board_cells v2 3 v5 hq) [1, 3] rfl (cwV 2 hts gX2_supportsOf_X0_of rfl rfl rfl hd_X0_of ⟨Nat.le_of_ble_eq_true rfl, Nat.le_of_ble_eq_true rfl⟩) rfl rfl rfl hl.1 rfl (Nat.le_of_ble_eq_true rfl) dX2_supportsOf_39 ⟨Nat.zero_le _, Nat.zero_le _⟩ ?_
          refine lv_iload_n hx hb dX2_supportsOf_42 rfl (lv_at hl 4 rfl) ?_
          refine lv_icmp_ne (tgt := 50) hx hb dX2_supportsOf_43 (by decide) (fun hc => ?_) (fun hc => ?_)
          · replace hg := if_no hg hc
            refine lv_iconst (v := 0) hx hb dX2_supportsOf_50 (by decide) ?_
            exact hJ1 _ bo_0 _ (lv_sub hl [0, 1, 2, 3, 4] rfl) hg
          · replace hg := if_yes hg hc
            refine lv_iconst (v := 1) hx hb dX2_supportsOf_46 (by decide) ?_
            refine lv_goto (tgt := 51) hx hb dX2_supportsOf_47 (by decide) ?_
            exact hJ1 _ bo_1 _ (lv_sub hl [0, 1, 2, 3, 4] rfl) hg
  exact L FU _ _ _ (lv_sub hl [0, 1, 2, 3, 4] rfl) hL
theorem hd_X2_weighOrders : yX2_weighOrders.cls = RX2 ∧ yX2_weighOrders.cls ≠ "java/lang/invoke/MethodHandle" ∧ yX2_weighOrders.cls ≠ "java/lang/invoke/VarHandle" ∧ (parseMethodDescriptor yX2_weighOrders.desc).map (fun d => d.parameters.length) = some 0 := by decide +kernel
theorem in_X2_weighOrders_X2 : ∀ w ∈ u_ws RX2 TX2 8, w ∈ wsX2_weighOrders := fun _ h => List.mem_cons_of_mem _ (List.mem_append_left _ (List.mem_append_right _ h))
theorem wd_X2_weighOrders_1 : Cond.fieldLink RX2 12 "FogOrders$Opening" "board" "LFogOrders$Board;" ∈ wsX2_weighOrders := List.mem_of_getElem? (i := 1) rfl
theorem wd_X2_weighOrders_2 : Cond.fieldLink RX2 25 "FogOrders$Opening" "strength" "[I" ∈ wsX2_weighOrders := List.mem_of_getElem? (i := 2) rfl
theorem wd_X2_weighOrders_25 : Cond.initialized RX4 ∈ wsX2_weighOrders := List.mem_of_getElem? (i := 25) rfl
theorem wd_X2_weighOrders_27 : Cond.static yX4_enter ∈ wsX2_weighOrders := List.mem_of_getElem? (i := 27) rfl
abbrev rX2_weighOrders : Room := { frames := 2, cells := 0, slots := 0, locals := 48 }
set_option maxHeartbeats 4000000 in
set_option maxRecDepth 100000 in
theorem c_X2_weighOrders (l : Launch) (D : va_G) (cI cZ cB cJ : ClassId) (A_t : Nat) (A_t_board : Nat) (A_t_cut : Nat) (A_t_counts : Nat) (A_t_strength : Nat) (A_t_reason : Nat) (A_t_driver : Nat) (A_t_waits : Nat) (A_t_stands : Nat) (A_t_board_numbers : Nat) (A_t_board_owners : Nat) (A_t_board_cells : Nat) (sz : Nat) (V_t_board_numbers : Nat → Int32) (V_t_board_cells : Nat → Int32) (V_t_counts : Nat → Int32) (V_t_strength : Nat → Int32) (w1 : Nat → Int32) (hg : g_X2_weighOrders V_t_board_numbers V_t_board_cells V_t_counts V_t_strength = some w1) : Met l yX2_weighOrders wsX2_weighOrders rX2_weighOrders (PcW D cI cZ cB cJ sz [(A_t, .inr (2, [.ref A_t_board, .ref A_t_cut, .ref A_t_counts, .ref A_t_strength, .ref A_t_reason, .ref A_t_driver, .ref A_t_waits, .ref A_t_stands])), (A_t_board, .inr (0, [.ref A_t_board_numbers, .ref A_t_board_owners, .ref A_t_board_cells])), (A_t_board_numbers, .inl (cI, 10, .inl V_t_board_numbers)), (A_t_board_cells, .inl (cI, 63, .inl V_t_board_cells)), (A_t_counts, .inl (cI, 9, .inl V_t_counts)), (A_t_strength, .inl (cI, 9, .inl V_t_strength))] [.ref A_t]) (QWv D cI cZ cB cJ sz [(A_t, .inr (2, [.ref A_t_board, .ref A_t_cut, .ref A_t_counts, .ref A_t_strength, .ref A_t_reason, .ref A_t_driver, .ref A_t_waits, .ref A_t_stands])), (A_t_board, .inr (0, [.ref A_t_board_numbers, .ref A_t_board_owners, .ref A_t_board_cells])), (A_t_board_numbers, .inl (cI, 10, .inl V_t_board_numbers)), (A_t_board_cells, .inl (cI, 63, .inl V_t_board_cells)), (A_t_counts, .inl (cI, 9, .inl V_t_counts)), (A_t_strength, .inl (cI, 9, .inl V_t_strength))] [(A_t, .inr (2, [.ref A_t_board, .ref A_t_cut, .ref A_t_counts, .ref A_t_strength, .ref A_t_reason, .ref A_t_driver, .ref A_t_waits, .ref A_t_stands])), (A_t_board, .inr (0, [.ref A_t_board_numbers, .ref A_t_board_owners, .ref A_t_board_cells])), (A_t_board_numbers, .inl (cI, 10, .inl V_t_board_numbers)), (A_t_board_cells, .inl (cI, 63, .inl V_t_board_cells)), (A_t_counts, .inl (cI, 9, .inl V_t_counts)), (A_t_strength, .inl (cI, 9, .inl w1))]) 0 0 (va_A [(A_t, .inr (2, [.ref A_t_board, .ref A_t_cut, .ref A_t_counts, .ref A_t_strength, .ref A_t_reason, .ref A_t_driver, .ref A_t_waits, .ref A_t_stands])), (A_t_board, .inr (0, [.ref A_t_board_numbers, .ref A_t_board_owners, .ref A_t_board_cells])), (A_t_board_numbers, .inl (cI, 10, .inl V_t_board_numbers)), (A_t_board_cells, .inl (cI, 63, .inl V_t_board_cells)), (A_t_counts, .inl (cI, 9, .inl V_t_counts)), (A_t_strength, .inl (cI, 9, .inl V_t_strength))] sz) := by
  refine bodyWv (cc := cX2_weighOrders) (maxL := 4) (lv := [(0, .ref A_t)]) (by decide) rfl (Nat.le_of_ble_eq_true rfl) rfl ?_
  intro p e s m args below meth c Q hx hb hml hown hts A hP hK hD hA hS fin ls hl
  replace hown : s.vm.findClass RX2 = some m.cls := hown
  have S : CallFix p m c cX2_weighOrders 4 s args wsX2_weighOrders RX2 := ⟨hx, hb, hml, hown, hts⟩
  unfold g_X2_weighOrders at hg
  refine lv_iconst (v := 0) hx hb dX2_weighOrders_0 (by decide) ?_
  refine lv_istore_n (lv' := [(1, .int 0), (0, .ref A_t)]) hx hb dX2_weighOrders_1 rfl hl (by decide) rfl (fun ls hl => ?_)
  obtain ⟨f10, hL, hg⟩ := bind_ex hg
  have kx : ∀ (H : Heap) (locs : List Loc), va_P D vwCl [(A_t, .inr (2, [.ref A_t_board, .ref A_t_cut, .ref A_t_counts, .ref A_t_strength, .ref A_t_reason, .ref A_t_driver, .ref A_t_waits, .ref A_t_stands])), (A_t_board, .inr (0, [.ref A_t_board_numbers, .ref A_t_board_owners, .ref A_t_board_cells])), (A_t_board_numbers, .inl (cI, 10, .inl V_t_board_numbers)), (A_t_board_cells, .inl (cI, 63, .inl V_t_board_cells)), (A_t_counts, .inl (cI, 9, .inl V_t_counts)), (A_t_strength, .inl (cI, 9, .inl f10))] H → va_D A [(A_t, .inr (2, [.ref A_t_board, .ref A_t_cut, .ref A_t_counts, .ref A_t_strength, .ref A_t_reason, .ref A_t_driver, .ref A_t_waits, .ref A_t_stands])), (A_t_board, .inr (0, [.ref A_t_board_numbers, .ref A_t_board_owners, .ref A_t_board_cells])), (A_t_board_numbers, .inl (cI, 10, .inl V_t_board_numbers)), (A_t_board_cells, .inl (cI, 63, .inl V_t_board_cells)), (A_t_counts, .inl (cI, 9, .inl V_t_counts)), (A_t_strength, .inl (cI, 9, .inl f10))] → va_S A s.heap H locs → ∀ ls : Array Slot, lv_has ls 4 [] → W p l e rX2_weighOrders s m args below meth c H locs 0 0 Q (F0 m 68 ls []) := by
    intro H locs hP hD hS ls hl
    cases hg
    exact fin _ _ _ _ dX2_weighOrders_68 hP hD hS
  have L : ∀ (nf : Nat) (v1 : Int32) (f2 : Nat → Int32), ∀ (H : Heap) (locs : List Loc), va_P D vwCl [(A_t, .inr (2, [.ref A_t_board, .ref A_t_cut, .ref A_t_counts, .ref A_t_strength, .ref A_t_reason, .ref A_t_driver, .ref A_t_waits, .ref A_t_stands])), (A_t_board, .inr (0, [.ref A_t_board_numbers, .ref A_t_board_owners, .ref A_t_board_cells])), (A_t_board_numbers, .inl (cI, 10, .inl V_t_board_numbers)), (A_t_board_cells, .inl (cI, 63, .inl V_t_board_cells)), (A_t_counts, .inl (cI, 9, .inl V_t_counts)), (A_t_strength, .inl (cI, 9, .inl f2))] H → va_D A [(A_t, .inr (2, [.ref A_t_board, .ref A_t_cut, .ref A_t_counts, .ref A_t_strength, .ref A_t_reason, .ref A_t_driver, .ref A_t_waits, .ref A_t_stands])), (A_t_board, .inr (0, [.ref A_t_board_numbers, .ref A_t_board_owners, .ref A_t_board_cells])), (A_t_board_numbers, .inl (cI, 10, .inl V_t_board_numbers)), (A_t_board_cells, .inl (cI, 63, .inl V_t_board_cells)), (A_t_counts, .inl (cI, 9, .inl V_t_counts)), (A_t_strength, .inl (cI, 9, .inl f2))] → va_S A s.heap H locs → ∀ ls : Array Slot, lv_has ls 4 [(1, .int v1), (0, .ref A_t)] → g_X2_weighOrders_L1 V_t_board_numbers V_t_board_cells V_t_counts nf v1 f2 = some f10 → W p l e rX2_weighOrders s m args below meth c H locs 0 0 Q (F0 m 2 ls []) := by
    intro nf
    induction nf with
    | zero =>
      intro v1 f2 H locs hP hD hS ls hl hg
      exact no_some hg
    | succ nf ih =>
      intro v1 f2 H locs hP hD hS ls hl hg
      rw [g_X2_weighOrders_L1] at hg
      refine lv_iload_n hx hb dX2_weighOrders_2 rfl (lv_at hl 0 rfl) ?_
      refine lv_aload_n hx hb dX2_weighOrders_3 rfl (lv_at hl 1 rfl) ?_
      refine xget (ci := 2) (C := RX2) (T := TX2) (N := 8) (v := .ref A_t_board) hx hb hts in_X2_weighOrders_X2 hown hK hP 0 rfl rfl 0 (by decide) wd_X2_weighOrders_1 rfl dX2_weighOrders_4 ?_
      refine lv_iconst (v := 0) hx hb dX2_weighOrders_7 (by decide) ?_
      obtain ⟨v3, hq, hg⟩ := bind_ex hg
      refine callRVi (As := [.int 0]) (rest := [.int v1]) S hK hP (c_X0_number l D cI cZ cB cJ A_t_board A_t_board_numbers A_t_board_owners A_t_board_cells V_t_board_numbers 0 v3 hq) [1, 2] rfl (cwV 1 hts gX2_weighOrders_X0_number rfl rfl rfl hd_X0_number ⟨Nat.le_of_ble_eq_true rfl, Nat.le_of_ble_eq_true rfl⟩) rfl rfl rfl hl.1 rfl (Nat.le_of_ble_eq_true rfl) dX2_weighOrders_8 ⟨Nat.zero_le _, Nat.zero_le _⟩ ?_
      refine lv_icmp_ge (tgt := 68) hx hb dX2_weighOrders_11 (by decide) (fun hc => ?_) (fun hc => ?_)
      · replace hg := if_yes hg hc
        cases hg
        exact kx _ _ hP hD hS _ (lv_sub hl [] rfl)
      · replace hg := if_no hg hc
        refine lv_aload_n hx hb dX2_weighOrders_14 rfl (lv_at hl 1 rfl) ?_
        refine xget (ci := 2) (C := RX2) (T := TX2) (N := 8) (v := .ref A_t_board) hx hb hts in_X2_weighOrders_X2 hown hK hP 0 rfl rfl 0 (by decide) wd_X2_weighOrders_1 rfl dX2_weighOrders_15 ?_
        refine lv_iload_n hx hb dX2_weighOrders_18 rfl (lv_at hl 0 rfl) ?_
        refine lv_iconst (v := 1) hx hb dX2_weighOrders_19 (by decide) ?_
        obtain ⟨v4, hq, hg⟩ := bind_ex hg
        refine callRVi (As := [.int v1, .int 1]) (rest := []) S hK hP (c_X0_of l D cI cZ cB cJ A_t_board A_t_board_numbers A_t_board_owners A_t_board_cells V_t_board_cells v1 1 v4 hq) [1, 3] rfl (cwV 2 hts gX2_weighOrders_X0_of rfl rfl rfl hd_X0_of ⟨Nat.le_of_ble_eq_true rfl, Nat.le_of_ble_eq_true rfl⟩) rfl rfl rfl hl.1 rfl (Nat.le_of_ble_eq_true rfl) dX2_weighOrders_20 ⟨Nat.zero_le _, Nat.zero_le _⟩ ?_
        refine lv_istore_n (lv' := [(2, .int v4), (1, .int v1), (0, .ref A_t)]) hx hb dX2_weighOrders_23 rfl hl (by decide) rfl (fun ls hl => ?_)
        refine lv_aload_n hx hb dX2_weighOrders_24 rfl (lv_at hl 2 rfl) ?_
        refine lv_iload_n hx hb dX2_weighOrders_25 rfl (lv_at hl 1 rfl) ?_
        obtain ⟨v5, hq, hg⟩ := bind_ex hg
        refine callRVz (As := [.int v1]) (rest := []) S hK hP (c_X2_moves l D cI cZ cB cJ A_t A_t_board A_t_cut A_t_counts A_t_strength A_t_reason A_t_driver A_t_waits A_t_stands A_t_board_numbers A_t_board_owners A_t_board_cells V_t_board_cells v1 v5 hq) [0, 1, 3] rfl (cwV 1 hts gX2_weighOrders_X2_moves rfl rfl rfl hd_X2_moves ⟨Nat.le_of_ble_eq_true rfl, Nat.le_of_ble_eq_true rfl⟩) rfl rfl rfl hl.1 rfl (Nat.le_of_ble_eq_true rfl) dX2_weighOrders_26 ⟨Nat.zero_le _, Nat.zero_le _⟩ (fun hz_v5 => ?_)
        have hJ1 : ∀ (v7 : Int32), ∀ (H : Heap) (locs : List Loc), va_P D vwCl [(A_t, .inr (2, [.ref A_t_board, .ref A_t_cut, .ref A_t_counts, .ref A_t_strength, .ref A_t_reason, .ref A_t_driver, .ref A_t_waits, .ref A_t_stands])), (A_t_board, .inr (0, [.ref A_t_board_numbers, .ref A_t_board_owners, .ref A_t_board_cells])), (A_t_board_numbers, .inl (cI, 10, .inl V_t_board_numbers)), (A_t_board_cells, .inl (cI, 63, .inl V_t_board_cells)), (A_t_counts, .inl (cI, 9, .inl V_t_counts)), (A_t_strength, .inl (cI, 9, .inl f2))] H → va_D A [(A_t, .inr (2, [.ref A_t_board, .ref A_t_cut, .ref A_t_counts, .ref A_t_strength, .ref A_t_reason, .ref A_t_driver, .ref A_t_waits, .ref A_t_stands])), (A_t_board, .inr (0, [.ref A_t_board_numbers, .ref A_t_board_owners, .ref A_t_board_cells])), (A_t_board_numbers, .inl (cI, 10, .inl V_t_board_numbers)), (A_t_board_cells, .inl (cI, 63, .inl V_t_board_cells)), (A_t_counts, .inl (cI, 9, .inl V_t_counts)), (A_t_strength, .inl (cI, 9, .inl f2))] → va_S A s.heap H locs → ∀ ls : Array Slot, lv_has ls 4 [(2, .int v4), (1, .int v1), (0, .ref A_t)] → g_X2_weighOrders_J1 V_t_board_numbers V_t_board_cells V_t_counts v4 f2 v1 (g_X2_weighOrders_L1 V_t_board_numbers V_t_board_cells V_t_counts nf) v7 = some f10 → W p l e rX2_weighOrders s m args below meth c H locs 0 0 Q (F0 m 45 ls [.int v7]) := by
          intro v7 H locs hP hD hS ls hl hg
          unfold g_X2_weighOrders_J1 at hg
          refine lv_istore_n (lv' := [(3, .int v7), (2, .int v4), (1, .int v1), (0, .ref A_t)]) hx hb dX2_weighOrders_45 rfl hl (by decide) rfl (fun ls hl => ?_)
          refine lv_aload_n hx hb dX2_weighOrders_46 rfl (lv_at hl 3 rfl) ?_
          refine xget (ci := 2) (C := RX2) (T := TX2) (N := 8) (v := .ref A_t_strength) hx hb hts in_X2_weighOrders_X2 hown hK hP 0 rfl rfl 3 (by decide) wd_X2_weighOrders_2 rfl dX2_weighOrders_47 ?_
          refine lv_iload_n hx hb dX2_weighOrders_50 rfl (lv_at hl 2 rfl) ?_
          refine lv_iconst (v := 1) hx hb dX2_weighOrders_51 (by decide) ?_
          refine lv_aload_n hx hb dX2_weighOrders_52 rfl (lv_at hl 3 rfl) ?_
          refine lv_iload_n hx hb dX2_weighOrders_53 rfl (lv_at hl 1 rfl) ?_
          refine lv_iload_n hx hb dX2_weighOrders_54 rfl (lv_at hl 0 rfl) ?_
          obtain ⟨v8, hq, hg⟩ := bind_ex hg
          refine callRVi (As := [.int v4, .int v7]) (rest := [.int 1, .int v1, .ref A_t_strength]) S hK hP (c_X2_supportsOf l D cI cZ cB cJ A_t A_t_board A_t_cut A_t_counts A_t_strength A_t_reason A_t_driver A_t_waits A_t_stands A_t_board_numbers A_t_board_owners A_t_board_cells V_t_board_numbers V_t_board_cells V_t_counts v4 v7 v8 hq) [0, 1, 2, 3, 4] rfl (cwV 2 hts gX2_weighOrders_X2_supportsOf rfl rfl rfl hd_X2_supportsOf ⟨Nat.le_of_ble_eq_true rfl, Nat.le_of_ble_eq_true rfl⟩) rfl rfl rfl hl.1 rfl (Nat.le_of_ble_eq_true rfl) dX2_weighOrders_55 ⟨Nat.zero_le _, Nat.zero_le _⟩ ?_
          refine lv_iadd hx hb dX2_weighOrders_58 ?_
          obtain ⟨f9, hq, hg⟩ := bind_ex hg
          refine callWNv (As := [.ref A_t_strength, .int v1, .int (1 + v8)]) (rest := []) (wr := [(A_t, .inr (2, [.ref A_t_board, .ref A_t_cut, .ref A_t_counts, .ref A_t_strength, .ref A_t_reason, .ref A_t_driver, .ref A_t_waits, .ref A_t_stands])), (A_t_board, .inr (0, [.ref A_t_board_numbers, .ref A_t_board_owners, .ref A_t_board_cells])), (A_t_board_numbers, .inl (cI, 10, .inl V_t_board_numbers)), (A_t_board_cells, .inl (cI, 63, .inl V_t_board_cells)), (A_t_counts, .inl (cI, 9, .inl V_t_counts))]) S hK hP hD hS hA (c_X4_enter l D cI cZ cB cJ A_t_strength 9 _ f2 v1 (1 + v8) f9 hq) [5] [0, 1, 2, 3, 4] rfl rfl (by decide +kernel) (by decide +kernel) (by decide +kernel) ⟨va_cnB 3 hts gX2_weighOrders_X4_enter_n76 rfl rfl rfl (hK.2 _ (List.mem_of_getElem? (i := 5) rfl)) (hts _ wd_X2_weighOrders_25) hd_X4_enter ⟨Nat.le_of_ble_eq_true rfl, Nat.le_of_ble_eq_true rfl⟩, hts _ wd_X2_weighOrders_27, trivial⟩ rfl hl.1 rfl (Nat.le_of_ble_eq_true rfl) dX2_weighOrders_59 ⟨Nat.zero_le _, Nat.zero_le _⟩ (fun H locs hP hD hS => ?_)
          replace hP : va_P D vwCl [(A_t, .inr (2, [.ref A_t_board, .ref A_t_cut, .ref A_t_counts, .ref A_t_strength, .ref A_t_reason, .ref A_t_driver, .ref A_t_waits, .ref A_t_stands])), (A_t_board, .inr (0, [.ref A_t_board_numbers, .ref A_t_board_owners, .ref A_t_board_cells])), (A_t_board_numbers, .inl (cI, 10, .inl V_t_board_numbers)), (A_t_board_cells, .inl (cI, 63, .inl V_t_board_cells)), (A_t_counts, .inl (cI, 9, .inl V_t_counts)), (A_t_strength, .inl (cI, 9, .inl f9))] H := hP
          replace hD : va_D A [(A_t, .inr (2, [.ref A_t_board, .ref A_t_cut, .ref A_t_counts, .ref A_t_strength, .ref A_t_reason, .ref A_t_driver, .ref A_t_waits, .ref A_t_stands])), (A_t_board, .inr (0, [.ref A_t_board_numbers, .ref A_t_board_owners, .ref A_t_board_cells])), (A_t_board_numbers, .inl (cI, 10, .inl V_t_board_numbers)), (A_t_board_cells, .inl (cI, 63, .inl V_t_board_cells)), (A_t_counts, .inl (cI, 9, .inl V_t_counts)), (A_t_strength, .inl (cI, 9, .inl f9))] := hD
          refine lv_iinc (v := (v1 + 1)) (lv' := [(1, .int (v1 + 1)), (3, .int v7), (2, .int v4), (0, .ref A_t)]) hx hb dX2_weighOrders_62 hl (k := 2) rfl rfl (by decide) rfl (fun ls hl => ?_)
          refine lv_goto (tgt := 2) hx hb dX2_weighOrders_65 (by decide) ?_
          exact ih _ _ _ _ hP hD hS _ (lv_sub hl [0, 3] rfl) hg
        refine lv_if_eq (tgt := 44) hx hb dX2_weighOrders_29 (by decide) (fun hc => ?_) (fun hc => ?_)
        · replace hg := if_yes hg hc
          refine lv_iload_n hx hb dX2_weighOrders_44 rfl (lv_at hl 0 rfl) ?_
          exact hJ1 _ _ _ hP hD hS _ (lv_sub hl [0, 1, 2] rfl) hg
        · replace hg := if_no hg hc
          refine lv_aload_n hx hb dX2_weighOrders_32 rfl (lv_at hl 2 rfl) ?_
          refine xget (ci := 2) (C := RX2) (T := TX2) (N := 8) (v := .ref A_t_board) hx hb hts in_X2_weighOrders_X2 hown hK hP 0 rfl rfl 0 (by decide) wd_X2_weighOrders_1 rfl dX2_weighOrders_33 ?_
          refine lv_iload_n hx hb dX2_weighOrders_36 rfl (lv_at hl 1 rfl) ?_
          refine lv_iconst (v := 3) hx hb dX2_weighOrders_37 (by decide) ?_
          obtain ⟨v6, hq, hg⟩ := bind_ex hg
          refine callRVi (As := [.int v1, .int 3]) (rest := []) S hK hP (c_X0_of l D cI cZ cB cJ A_t_board A_t_board_numbers A_t_board_owners A_t_board_cells V_t_board_cells v1 3 v6 hq) [1, 3] rfl (cwV 2 hts gX2_weighOrders_X0_of rfl rfl rfl hd_X0_of ⟨Nat.le_of_ble_eq_true rfl, Nat.le_of_ble_eq_true rfl⟩) rfl rfl rfl hl.1 rfl (Nat.le_of_ble_eq_true rfl) dX2_weighOrders_38 ⟨Nat.zero_le _, Nat.zero_le _⟩ ?_
          refine lv_goto (tgt := 45) hx hb dX2_weighOrders_41 (by decide) ?_
          exact hJ1 _ _ _ hP hD hS _ (lv_sub hl [0, 1, 2] rfl) hg
  exact L FU _ _ _ _ hP hD hS _ (lv_sub hl [0, 1] rfl) hL
theorem hd_X2_hasRival : yX2_hasRival.cls = RX2 ∧ yX2_hasRival.cls ≠ "java/lang/invoke/MethodHandle" ∧ yX2_hasRival.cls ≠ "java/lang/invoke/VarHandle" ∧ (parseMethodDescriptor yX2_hasRival.desc).map (fun d => d.parameters.length) = some 1 := by decide +kernel
theorem in_X2_hasRival_X2 : ∀ w ∈ u_ws RX2 TX2 8, w ∈ wsX2_hasRival := fun _ h => List.mem_cons_of_mem _ (List.mem_append_left _ (List.mem_append_right _ h))
theorem wd_X2_hasRival_1 : Cond.fieldLink RX2 12 "FogOrders$Opening" "board" "LFogOrders$Board;" ∈ wsX2_hasRival := List.mem_of_getElem? (i := 1) rfl
theorem wd_X2_hasRival_2 : Cond.fieldLink RX2 25 "FogOrders$Opening" "strength" "[I" ∈ wsX2_hasRival := List.mem_of_getElem? (i := 2) rfl
theorem wd_X2_hasRival_20 : Cond.initialized RX4 ∈ wsX2_hasRival := List.mem_of_getElem? (i := 20) rfl
theorem wd_X2_hasRival_19 : Cond.static yX4_entry ∈ wsX2_hasRival := List.mem_of_getElem? (i := 19) rfl
abbrev rX2_hasRival : Room := { frames := 2, cells := 0, slots := 0, locals := 44 }
set_option maxHeartbeats 4000000 in
set_option maxRecDepth 100000 in
theorem c_X2_hasRival (l : Launch) (D : va_G) (cI cZ cB cJ : ClassId) (A_t : Nat) (A_t_board : Nat) (A_t_cut : Nat) (A_t_counts : Nat) (A_t_strength : Nat) (A_t_reason : Nat) (A_t_driver : Nat) (A_t_waits : Nat) (A_t_stands : Nat) (A_t_board_numbers : Nat) (A_t_board_owners : Nat) (A_t_board_cells : Nat) (V_t_board_numbers : Nat → Int32) (V_t_board_cells : Nat → Int32) (V_t_strength : Nat → Int32) (x1 : Int32) (r0 : Int32) (hg : g_X2_hasRival V_t_board_numbers V_t_board_cells V_t_strength x1 = some r0) : Met l yX2_hasRival wsX2_hasRival rX2_hasRival (PcR D cI cZ cB cJ [(A_t, .inr (2, [.ref A_t_board, .ref A_t_cut, .ref A_t_counts, .ref A_t_strength, .ref A_t_reason, .ref A_t_driver, .ref A_t_waits, .ref A_t_stands])), (A_t_board, .inr (0, [.ref A_t_board_numbers, .ref A_t_board_owners, .ref A_t_board_cells])), (A_t_board_numbers, .inl (cI, 10, .inl V_t_board_numbers)), (A_t_board_cells, .inl (cI, 63, .inl V_t_board_cells)), (A_t_strength, .inl (cI, 9, .inl V_t_strength))] [.ref A_t, .int x1]) (vp_Si (fun r' => r' = r0 ∧ bo r0)) 0 0 (fun _ => False) := by
  refine bodyRz (cc := cX2_hasRival) (maxL := 3) (lv := [(0, .ref A_t), (1, .int x1)]) (by decide) rfl (Nat.le_of_ble_eq_true rfl) rfl ?_
  intro p e s m args below meth c Q hx hb hml hown hts hP hK fin ls hl
  replace hown : s.vm.findClass RX2 = some m.cls := hown
  have S : CallFix p m c cX2_hasRival 3 s args wsX2_hasRival RX2 := ⟨hx, hb, hml, hown, hts⟩
  unfold g_X2_hasRival at hg
  refine lv_iconst (v := 0) hx hb dX2_hasRival_0 (by decide) ?_
  refine lv_istore_n (lv' := [(2, .int 0), (0, .ref A_t), (1, .int x1)]) hx hb dX2_hasRival_1 rfl hl (by decide) rfl (fun ls hl => ?_)
  have L : ∀ (nf : Nat) (v1 : Int32), ∀ ls : Array Slot, lv_has ls 3 [(2, .int v1), (0, .ref A_t), (1, .int x1)] → g_X2_hasRival_L1 V_t_board_numbers x1 V_t_board_cells V_t_strength nf v1 = some r0 → W p l e rX2_hasRival s m args below meth c s.heap [] 0 0 Q (F0 m 2 ls []) := by
    intro nf
    induction nf with
    | zero =>
      intro v1 ls hl hg
      exact no_some hg
    | succ nf ih =>
      intro v1 ls hl hg
      rw [g_X2_hasRival_L1] at hg
      refine lv_iload_n hx hb dX2_hasRival_2 rfl (lv_at hl 0 rfl) ?_
      refine lv_aload_n hx hb dX2_hasRival_3 rfl (lv_at hl 1 rfl) ?_
      refine xget (ci := 2) (C := RX2) (T := TX2) (N := 8) (v := .ref A_t_board) hx hb hts in_X2_hasRival_X2 hown hK hP 0 rfl rfl 0 (by decide) wd_X2_hasRival_1 rfl dX2_hasRival_4 ?_
      refine lv_iconst (v := 0) hx hb dX2_hasRival_7 (by decide) ?_
      obtain ⟨v2, hq, hg⟩ := bind_ex hg
      refine callRVi (As := [.int 0]) (rest := [.int v1]) S hK hP (c_X0_number l D cI cZ cB cJ A_t_board A_t_board_numbers A_t_board_owners A_t_board_cells V_t_board_numbers 0 v2 hq) [1, 2] rfl (cwV 1 hts gX2_hasRival_X0_number rfl rfl rfl hd_X0_number ⟨Nat.le_of_ble_eq_true rfl, Nat.le_of_ble_eq_true rfl⟩) rfl rfl rfl hl.1 rfl (Nat.le_of_ble_eq_true rfl) dX2_hasRival_8 ⟨Nat.zero_le _, Nat.zero_le _⟩ ?_
      refine lv_icmp_ge (tgt := 75) hx hb dX2_hasRival_11 (by decide) (fun hc => ?_) (fun hc => ?_)
      · replace hg := if_yes hg hc
        refine lv_iconst (v := 0) hx hb dX2_hasRival_75 (by decide) ?_
        cases hg
        exact fin _ _ bo_0 dX2_hasRival_76
      · replace hg := if_no hg hc
        refine lv_iload_n hx hb dX2_hasRival_14 rfl (lv_at hl 0 rfl) ?_
        refine lv_iload_n hx hb dX2_hasRival_15 rfl (lv_at hl 2 rfl) ?_
        refine lv_icmp_eq (tgt := 69) hx hb dX2_hasRival_16 (by decide) (fun hc => ?_) (fun hc => ?_)
        · replace hg := if_yes hg hc
          refine lv_iinc (v := (v1 + 1)) (lv' := [(2, .int (v1 + 1)), (0, .ref A_t), (1, .int x1)]) hx hb dX2_hasRival_69 hl (k := 0) rfl rfl (by decide) rfl (fun ls hl => ?_)
          refine lv_goto (tgt := 2) hx hb dX2_hasRival_72 (by decide) ?_
          exact ih _ _ (lv_sub hl [0, 1, 2] rfl) hg
        · replace hg := if_no hg hc
          refine lv_aload_n hx hb dX2_hasRival_19 rfl (lv_at hl 1 rfl) ?_
          refine lv_iload_n hx hb dX2_hasRival_20 rfl (lv_at hl 0 rfl) ?_
          obtain ⟨v3, hq, hg⟩ := bind_ex hg
          refine callRVz (As := [.int v1]) (rest := []) S hK hP (c_X2_moves l D cI cZ cB cJ A_t A_t_board A_t_cut A_t_counts A_t_strength A_t_reason A_t_driver A_t_waits A_t_stands A_t_board_numbers A_t_board_owners A_t_board_cells V_t_board_cells v1 v3 hq) [0, 1, 3] rfl (cwV 1 hts gX2_hasRival_X2_moves rfl rfl rfl hd_X2_moves ⟨Nat.le_of_ble_eq_true rfl, Nat.le_of_ble_eq_true rfl⟩) rfl rfl rfl hl.1 rfl (Nat.le_of_ble_eq_true rfl) dX2_hasRival_21 ⟨Nat.zero_le _, Nat.zero_le _⟩ (fun hz_v3 => ?_)
          refine lv_if_eq (tgt := 69) hx hb dX2_hasRival_24 (by decide) (fun hc => ?_) (fun hc => ?_)
          · replace hg := if_yes hg hc
            refine lv_iinc (v := (v1 + 1)) (lv' := [(2, .int (v1 + 1)), (0, .ref A_t), (1, .int x1)]) hx hb dX2_hasRival_69 hl (k := 0) rfl rfl (by decide) rfl (fun ls hl => ?_)
            refine lv_goto (tgt := 2) hx hb dX2_hasRival_72 (by decide) ?_
            exact ih _ _ (lv_sub hl [0, 1, 2] rfl) hg
          · replace hg := if_no hg hc
            refine lv_aload_n hx hb dX2_hasRival_27 rfl (lv_at hl 1 rfl) ?_
            refine xget (ci := 2) (C := RX2) (T := TX2) (N := 8) (v := .ref A_t_board) hx hb hts in_X2_hasRival_X2 hown hK hP 0 rfl rfl 0 (by decide) wd_X2_hasRival_1 rfl dX2_hasRival_28 ?_
            refine lv_iload_n hx hb dX2_hasRival_31 rfl (lv_at hl 0 rfl) ?_
            refine lv_iconst (v := 3) hx hb dX2_hasRival_32 (by decide) ?_
            obtain ⟨v4, hq, hg⟩ := bind_ex hg
            refine callRVi (As := [.int v1, .int 3]) (rest := []) S hK hP (c_X0_of l D cI cZ cB cJ A_t_board A_t_board_numbers A_t_board_owners A_t_board_cells V_t_board_cells v1 3 v4 hq) [1, 3] rfl (cwV 2 hts gX2_hasRival_X0_of rfl rfl rfl hd_X0_of ⟨Nat.le_of_ble_eq_true rfl, Nat.le_of_ble_eq_true rfl⟩) rfl rfl rfl hl.1 rfl (Nat.le_of_ble_eq_true rfl) dX2_hasRival_33 ⟨Nat.zero_le _, Nat.zero_le _⟩ ?_
            refine lv_aload_n hx hb dX2_hasRival_36 rfl (lv_at hl 1 rfl) ?_
            refine xget (ci := 2) (C := RX2) (T := TX2) (N := 8) (v := .ref A_t_board) hx hb hts in_X2_hasRival_X2 hown hK hP 0 rfl rfl 0 (by decide) wd_X2_hasRival_1 rfl dX2_hasRival_37 ?_
            refine lv_iload_n hx hb dX2_hasRival_40 rfl (lv_at hl 2 rfl) ?_
            refine lv_iconst (v := 3) hx hb dX2_hasRival_41 (by decide) ?_
            obtain ⟨v5, hq, hg⟩ := bind_ex hg
            refine callRVi (As := [.int x1, .int 3]) (rest := [.int v4]) S hK hP (c_X0_of l D cI cZ cB cJ A_t_board A_t_board_numbers A_t_board_owners A_t_board_cells V_t_board_cells x1 3 v5 hq) [1, 3] rfl (cwV 2 hts gX2_hasRival_X0_of rfl rfl rfl hd_X0_of ⟨Nat.le_of_ble_eq_true rfl, Nat.le_of_ble_eq_true rfl⟩) rfl rfl rfl hl.1 rfl (Nat.le_of_ble_eq_true rfl) dX2_hasRival_42 ⟨Nat.zero_le _, Nat.zero_le _⟩ ?_
            refine lv_icmp_ne (tgt := 69) hx hb dX2_hasRival_45 (by decide) (fun hc => ?_) (fun hc => ?_)
            · replace hg := if_no hg hc
              refine lv_iinc (v := (v1 + 1)) (lv' := [(2, .int (v1 + 1)), (0, .ref A_t), (1, .int x1)]) hx hb dX2_hasRival_69 hl (k := 0) rfl rfl (by decide) rfl (fun ls hl => ?_)
              refine lv_goto (tgt := 2) hx hb dX2_hasRival_72 (by decide) ?_
              exact ih _ _ (lv_sub hl [0, 1, 2] rfl) hg
            · replace hg := if_yes hg hc
              refine lv_aload_n hx hb dX2_hasRival_48 rfl (lv_at hl 1 rfl) ?_
              refine xget (ci := 2) (C := RX2) (T := TX2) (N := 8) (v := .ref A_t_strength) hx hb hts in_X2_hasRival_X2 hown hK hP 0 rfl rfl 3 (by decide) wd_X2_hasRival_2 rfl dX2_hasRival_49 ?_
              refine lv_iload_n hx hb dX2_hasRival_52 rfl (lv_at hl 0 rfl) ?_
              obtain ⟨v6, hq, hg⟩ := bind_ex hg
              refine callRNi (As := [.ref A_t_strength, .int v1]) (rest := []) S hK hP (c_X4_entry l D cI cZ cB cJ A_t_strength 9 V_t_strength v1 v6 hq) [4] rfl ⟨va_cnB 2 hts gX2_hasRival_X4_entry_n89 rfl rfl rfl (hK.2 _ (List.mem_of_getElem? (i := 6) rfl)) (hts _ wd_X2_hasRival_20) hd_X4_entry ⟨Nat.le_of_ble_eq_true rfl, Nat.le_of_ble_eq_true rfl⟩, hts _ wd_X2_hasRival_19, trivial⟩ rfl hl.1 rfl (Nat.le_of_ble_eq_true rfl) dX2_hasRival_53 ⟨Nat.zero_le _, Nat.zero_le _⟩ ?_
              refine lv_aload_n hx hb dX2_hasRival_56 rfl (lv_at hl 1 rfl) ?_
              refine xget (ci := 2) (C := RX2) (T := TX2) (N := 8) (v := .ref A_t_strength) hx hb hts in_X2_hasRival_X2 hown hK hP 0 rfl rfl 3 (by decide) wd_X2_hasRival_2 rfl dX2_hasRival_57 ?_
              refine lv_iload_n hx hb dX2_hasRival_60 rfl (lv_at hl 2 rfl) ?_
              obtain ⟨v7, hq, hg⟩ := bind_ex hg
              refine callRNi (As := [.ref A_t_strength, .int x1]) (rest := [.int v6]) S hK hP (c_X4_entry l D cI cZ cB cJ A_t_strength 9 V_t_strength x1 v7 hq) [4] rfl ⟨va_cnB 2 hts gX2_hasRival_X4_entry_n89 rfl rfl rfl (hK.2 _ (List.mem_of_getElem? (i := 6) rfl)) (hts _ wd_X2_hasRival_20) hd_X4_entry ⟨Nat.le_of_ble_eq_true rfl, Nat.le_of_ble_eq_true rfl⟩, hts _ wd_X2_hasRival_19, trivial⟩ rfl hl.1 rfl (Nat.le_of_ble_eq_true rfl) dX2_hasRival_61 ⟨Nat.zero_le _, Nat.zero_le _⟩ ?_
              refine lv_icmp_lt (tgt := 69) hx hb dX2_hasRival_64 (by decide) (fun hc => ?_) (fun hc => ?_)
              · replace hg := if_yes hg hc
                refine lv_iinc (v := (v1 + 1)) (lv' := [(2, .int (v1 + 1)), (0, .ref A_t), (1, .int x1)]) hx hb dX2_hasRival_69 hl (k := 0) rfl rfl (by decide) rfl (fun ls hl => ?_)
                refine lv_goto (tgt := 2) hx hb dX2_hasRival_72 (by decide) ?_
                exact ih _ _ (lv_sub hl [0, 1, 2] rfl) hg
              · replace hg := if_no hg hc
                refine lv_iconst (v := 1) hx hb dX2_hasRival_67 (by decide) ?_
                cases hg
                exact fin _ _ bo_1 dX2_hasRival_68
  exact L FU _ _ (lv_sub hl [0, 1, 2] rfl) hg
theorem hd_X2_losesSwap : yX2_losesSwap.cls = RX2 ∧ yX2_losesSwap.cls ≠ "java/lang/invoke/MethodHandle" ∧ yX2_losesSwap.cls ≠ "java/lang/invoke/VarHandle" ∧ (parseMethodDescriptor yX2_losesSwap.desc).map (fun d => d.parameters.length) = some 1 := by decide +kernel
theorem in_X2_losesSwap_X2 : ∀ w ∈ u_ws RX2 TX2 8, w ∈ wsX2_losesSwap := fun _ h => List.mem_cons_of_mem _ (List.mem_append_left _ (List.mem_append_right _ h))
theorem wd_X2_losesSwap_1 : Cond.fieldLink RX2 12 "FogOrders$Opening" "board" "LFogOrders$Board;" ∈ wsX2_losesSwap := List.mem_of_getElem? (i := 1) rfl
theorem wd_X2_losesSwap_2 : Cond.fieldLink RX2 25 "FogOrders$Opening" "strength" "[I" ∈ wsX2_losesSwap := List.mem_of_getElem? (i := 2) rfl
theorem wd_X2_losesSwap_25 : Cond.initialized RX4 ∈ wsX2_losesSwap := List.mem_of_getElem? (i := 25) rfl
theorem wd_X2_losesSwap_24 : Cond.static yX4_entry ∈ wsX2_losesSwap := List.mem_of_getElem? (i := 24) rfl
abbrev rX2_losesSwap : Room := { frames := 2, cells := 0, slots := 0, locals := 45 }
set_option maxHeartbeats 4000000 in
set_option maxRecDepth 100000 in
theorem c_X2_losesSwap (l : Launch) (D : va_G) (cI cZ cB cJ : ClassId) (A_t : Nat) (A_t_board : Nat) (A_t_cut : Nat) (A_t_counts : Nat) (A_t_strength : Nat) (A_t_reason : Nat) (A_t_driver : Nat) (A_t_waits : Nat) (A_t_stands : Nat) (A_t_board_numbers : Nat) (A_t_board_owners : Nat) (A_t_board_cells : Nat) (V_t_board_cells : Nat → Int32) (V_t_board_numbers : Nat → Int32) (V_t_strength : Nat → Int32) (x1 : Int32) (r0 : Int32) (hg : g_X2_losesSwap V_t_board_cells V_t_board_numbers V_t_strength x1 = some r0) : Met l yX2_losesSwap wsX2_losesSwap rX2_losesSwap (PcR D cI cZ cB cJ [(A_t, .inr (2, [.ref A_t_board, .ref A_t_cut, .ref A_t_counts, .ref A_t_strength, .ref A_t_reason, .ref A_t_driver, .ref A_t_waits, .ref A_t_stands])), (A_t_board, .inr (0, [.ref A_t_board_numbers, .ref A_t_board_owners, .ref A_t_board_cells])), (A_t_board_cells, .inl (cI, 63, .inl V_t_board_cells)), (A_t_board_numbers, .inl (cI, 10, .inl V_t_board_numbers)), (A_t_strength, .inl (cI, 9, .inl V_t_strength))] [.ref A_t, .int x1]) (vp_Si (fun r' => r' = r0 ∧ bo r0)) 0 0 (fun _ => False) := by
  refine bodyRz (cc := cX2_losesSwap) (maxL := 3) (lv := [(0, .ref A_t), (1, .int x1)]) (by decide) rfl (Nat.le_of_ble_eq_true rfl) rfl ?_
  intro p e s m args below meth c Q hx hb hml hown hts hP hK fin ls hl
  replace hown : s.vm.findClass RX2 = some m.cls := hown
  have S : CallFix p m c cX2_losesSwap 3 s args wsX2_losesSwap RX2 := ⟨hx, hb, hml, hown, hts⟩
  unfold g_X2_losesSwap at hg
  refine lv_aload_n hx hb dX2_losesSwap_0 rfl (lv_at hl 0 rfl) ?_
  refine xget (ci := 2) (C := RX2) (T := TX2) (N := 8) (v := .ref A_t_board) hx hb hts in_X2_losesSwap_X2 hown hK hP 0 rfl rfl 0 (by decide) wd_X2_losesSwap_1 rfl dX2_losesSwap_1 ?_
  refine lv_aload_n hx hb dX2_losesSwap_4 rfl (lv_at hl 0 rfl) ?_
  refine xget (ci := 2) (C := RX2) (T := TX2) (N := 8) (v := .ref A_t_board) hx hb hts in_X2_losesSwap_X2 hown hK hP 0 rfl rfl 0 (by decide) wd_X2_losesSwap_1 rfl dX2_losesSwap_5 ?_
  refine lv_iload_n hx hb dX2_losesSwap_8 rfl (lv_at hl 1 rfl) ?_
  refine lv_iconst (v := 3) hx hb dX2_losesSwap_9 (by decide) ?_
  obtain ⟨v1, hq, hg⟩ := bind_ex hg
  refine callRVi (As := [.int x1, .int 3]) (rest := [.ref A_t_board]) S hK hP (c_X0_of l D cI cZ cB cJ A_t_board A_t_board_numbers A_t_board_owners A_t_board_cells V_t_board_cells x1 3 v1 hq) [1, 2] rfl (cwV 2 hts gX2_losesSwap_X0_of rfl rfl rfl hd_X0_of ⟨Nat.le_of_ble_eq_true rfl, Nat.le_of_ble_eq_true rfl⟩) rfl rfl rfl hl.1 rfl (Nat.le_of_ble_eq_true rfl) dX2_losesSwap_10 ⟨Nat.zero_le _, Nat.zero_le _⟩ ?_
  obtain ⟨v2, hq, hg⟩ := bind_ex hg
  refine callRVi (As := [.int v1]) (rest := []) S hK hP (c_X0_armyOn l D cI cZ cB cJ A_t_board A_t_board_numbers A_t_board_owners A_t_board_cells V_t_board_numbers V_t_board_cells v1 v2 hq) [1, 3, 2] rfl (cwV 1 hts gX2_losesSwap_X0_armyOn rfl rfl rfl hd_X0_armyOn ⟨Nat.le_of_ble_eq_true rfl, Nat.le_of_ble_eq_true rfl⟩) rfl rfl rfl hl.1 rfl (Nat.le_of_ble_eq_true rfl) dX2_losesSwap_13 ⟨Nat.zero_le _, Nat.zero_le _⟩ ?_
  refine lv_istore_n (lv' := [(2, .int v2), (0, .ref A_t), (1, .int x1)]) hx hb dX2_losesSwap_16 rfl hl (by decide) rfl (fun ls hl => ?_)
  refine lv_iload_n hx hb dX2_losesSwap_17 rfl (lv_at hl 0 rfl) ?_
  refine lv_iconst (v := (-1)) hx hb dX2_losesSwap_18 (by decide) ?_
  refine lv_icmp_eq (tgt := 74) hx hb dX2_losesSwap_19 (by decide) (fun hc => ?_) (fun hc => ?_)
  · replace hg := if_yes hg hc
    refine lv_iconst (v := 0) hx hb dX2_losesSwap_74 (by decide) ?_
    cases hg
    exact fin _ _ bo_0 dX2_losesSwap_75
  · replace hg := if_no hg hc
    refine lv_aload_n hx hb dX2_losesSwap_22 rfl (lv_at hl 1 rfl) ?_
    refine lv_iload_n hx hb dX2_losesSwap_23 rfl (lv_at hl 0 rfl) ?_
    obtain ⟨v3, hq, hg⟩ := bind_ex hg
    refine callRVz (As := [.int v2]) (rest := []) S hK hP (c_X2_moves l D cI cZ cB cJ A_t A_t_board A_t_cut A_t_counts A_t_strength A_t_reason A_t_driver A_t_waits A_t_stands A_t_board_numbers A_t_board_owners A_t_board_cells V_t_board_cells v2 v3 hq) [0, 1, 2] rfl (cwV 1 hts gX2_losesSwap_X2_moves rfl rfl rfl hd_X2_moves ⟨Nat.le_of_ble_eq_true rfl, Nat.le_of_ble_eq_true rfl⟩) rfl rfl rfl hl.1 rfl (Nat.le_of_ble_eq_true rfl) dX2_losesSwap_24 ⟨Nat.zero_le _, Nat.zero_le _⟩ (fun hz_v3 => ?_)
    refine lv_if_eq (tgt := 74) hx hb dX2_losesSwap_27 (by decide) (fun hc => ?_) (fun hc => ?_)
    · replace hg := if_yes hg hc
      refine lv_iconst (v := 0) hx hb dX2_losesSwap_74 (by decide) ?_
      cases hg
      exact fin _ _ bo_0 dX2_losesSwap_75
    · replace hg := if_no hg hc
      refine lv_aload_n hx hb dX2_losesSwap_30 rfl (lv_at hl 1 rfl) ?_
      refine xget (ci := 2) (C := RX2) (T := TX2) (N := 8) (v := .ref A_t_board) hx hb hts in_X2_losesSwap_X2 hown hK hP 0 rfl rfl 0 (by decide) wd_X2_losesSwap_1 rfl dX2_losesSwap_31 ?_
      refine lv_iload_n hx hb dX2_losesSwap_34 rfl (lv_at hl 0 rfl) ?_
      refine lv_iconst (v := 3) hx hb dX2_losesSwap_35 (by decide) ?_
      obtain ⟨v4, hq, hg⟩ := bind_ex hg
      refine callRVi (As := [.int v2, .int 3]) (rest := []) S hK hP (c_X0_of l D cI cZ cB cJ A_t_board A_t_board_numbers A_t_board_owners A_t_board_cells V_t_board_cells v2 3 v4 hq) [1, 2] rfl (cwV 2 hts gX2_losesSwap_X0_of rfl rfl rfl hd_X0_of ⟨Nat.le_of_ble_eq_true rfl, Nat.le_of_ble_eq_true rfl⟩) rfl rfl rfl hl.1 rfl (Nat.le_of_ble_eq_true rfl) dX2_losesSwap_36 ⟨Nat.zero_le _, Nat.zero_le _⟩ ?_
      refine lv_aload_n hx hb dX2_losesSwap_39 rfl (lv_at hl 1 rfl) ?_
      refine xget (ci := 2) (C := RX2) (T := TX2) (N := 8) (v := .ref A_t_board) hx hb hts in_X2_losesSwap_X2 hown hK hP 0 rfl rfl 0 (by decide) wd_X2_losesSwap_1 rfl dX2_losesSwap_40 ?_
      refine lv_iload_n hx hb dX2_losesSwap_43 rfl (lv_at hl 2 rfl) ?_
      refine lv_iconst (v := 1) hx hb dX2_losesSwap_44 (by decide) ?_
      obtain ⟨v5, hq, hg⟩ := bind_ex hg
      refine callRVi (As := [.int x1, .int 1]) (rest := [.int v4]) S hK hP (c_X0_of l D cI cZ cB cJ A_t_board A_t_board_numbers A_t_board_owners A_t_board_cells V_t_board_cells x1 1 v5 hq) [1, 2] rfl (cwV 2 hts gX2_losesSwap_X0_of rfl rfl rfl hd_X0_of ⟨Nat.le_of_ble_eq_true rfl, Nat.le_of_ble_eq_true rfl⟩) rfl rfl rfl hl.1 rfl (Nat.le_of_ble_eq_true rfl) dX2_losesSwap_45 ⟨Nat.zero_le _, Nat.zero_le _⟩ ?_
      refine lv_icmp_ne (tgt := 74) hx hb dX2_losesSwap_48 (by decide) (fun hc => ?_) (fun hc => ?_)
      · replace hg := if_no hg hc
        refine lv_iconst (v := 0) hx hb dX2_losesSwap_74 (by decide) ?_
        cases hg
        exact fin _ _ bo_0 dX2_losesSwap_75
      · replace hg := if_yes hg hc
        refine lv_aload_n hx hb dX2_losesSwap_51 rfl (lv_at hl 1 rfl) ?_
        refine xget (ci := 2) (C := RX2) (T := TX2) (N := 8) (v := .ref A_t_strength) hx hb hts in_X2_losesSwap_X2 hown hK hP 0 rfl rfl 3 (by decide) wd_X2_losesSwap_2 rfl dX2_losesSwap_52 ?_
        refine lv_iload_n hx hb dX2_losesSwap_55 rfl (lv_at hl 0 rfl) ?_
        obtain ⟨v6, hq, hg⟩ := bind_ex hg
        refine callRNi (As := [.ref A_t_strength, .int v2]) (rest := []) S hK hP (c_X4_entry l D cI cZ cB cJ A_t_strength 9 V_t_strength v2 v6 hq) [4] rfl ⟨va_cnB 2 hts gX2_losesSwap_X4_entry_n89 rfl rfl rfl (hK.2 _ (List.mem_of_getElem? (i := 6) rfl)) (hts _ wd_X2_losesSwap_25) hd_X4_entry ⟨Nat.le_of_ble_eq_true rfl, Nat.le_of_ble_eq_true rfl⟩, hts _ wd_X2_losesSwap_24, trivial⟩ rfl hl.1 rfl (Nat.le_of_ble_eq_true rfl) dX2_losesSwap_56 ⟨Nat.zero_le _, Nat.zero_le _⟩ ?_
        refine lv_aload_n hx hb dX2_losesSwap_59 rfl (lv_at hl 1 rfl) ?_
        refine xget (ci := 2) (C := RX2) (T := TX2) (N := 8) (v := .ref A_t_strength) hx hb hts in_X2_losesSwap_X2 hown hK hP 0 rfl rfl 3 (by decide) wd_X2_losesSwap_2 rfl dX2_losesSwap_60 ?_
        refine lv_iload_n hx hb dX2_losesSwap_63 rfl (lv_at hl 2 rfl) ?_
        obtain ⟨v7, hq, hg⟩ := bind_ex hg
        refine callRNi (As := [.ref A_t_strength, .int x1]) (rest := [.int v6]) S hK hP (c_X4_entry l D cI cZ cB cJ A_t_strength 9 V_t_strength x1 v7 hq) [4] rfl ⟨va_cnB 2 hts gX2_losesSwap_X4_entry_n89 rfl rfl rfl (hK.2 _ (List.mem_of_getElem? (i := 6) rfl)) (hts _ wd_X2_losesSwap_25) hd_X4_entry ⟨Nat.le_of_ble_eq_true rfl, Nat.le_of_ble_eq_true rfl⟩, hts _ wd_X2_losesSwap_24, trivial⟩ rfl hl.1 rfl (Nat.le_of_ble_eq_true rfl) dX2_losesSwap_64 ⟨Nat.zero_le _, Nat.zero_le _⟩ ?_
        refine lv_icmp_lt (tgt := 74) hx hb dX2_losesSwap_67 (by decide) (fun hc => ?_) (fun hc => ?_)
        · replace hg := if_yes hg hc
          refine lv_iconst (v := 0) hx hb dX2_losesSwap_74 (by decide) ?_
          cases hg
          exact fin _ _ bo_0 dX2_losesSwap_75
        · replace hg := if_no hg hc
          refine lv_iconst (v := 1) hx hb dX2_losesSwap_70 (by decide) ?_
          refine lv_goto (tgt := 75) hx hb dX2_losesSwap_71 (by decide) ?_
          cases hg
          exact fin _ _ bo_1 dX2_losesSwap_75
theorem hd_X2_failAgainstMoves : yX2_failAgainstMoves.cls = RX2 ∧ yX2_failAgainstMoves.cls ≠ "java/lang/invoke/MethodHandle" ∧ yX2_failAgainstMoves.cls ≠ "java/lang/invoke/VarHandle" ∧ (parseMethodDescriptor yX2_failAgainstMoves.desc).map (fun d => d.parameters.length) = some 0 := by decide +kernel
theorem in_X2_failAgainstMoves_X2 : ∀ w ∈ u_ws RX2 TX2 8, w ∈ wsX2_failAgainstMoves := fun _ h => List.mem_cons_of_mem _ (List.mem_append_left _ (List.mem_append_right _ h))
theorem wd_X2_failAgainstMoves_1 : Cond.fieldLink RX2 12 "FogOrders$Opening" "board" "LFogOrders$Board;" ∈ wsX2_failAgainstMoves := List.mem_of_getElem? (i := 1) rfl
theorem wd_X2_failAgainstMoves_2 : Cond.fieldLink RX2 28 "FogOrders$Opening" "reason" "[I" ∈ wsX2_failAgainstMoves := List.mem_of_getElem? (i := 2) rfl
theorem wd_X2_failAgainstMoves_25 : Cond.initialized RX4 ∈ wsX2_failAgainstMoves := List.mem_of_getElem? (i := 25) rfl
theorem wd_X2_failAgainstMoves_37 : Cond.static yX4_enter ∈ wsX2_failAgainstMoves := List.mem_of_getElem? (i := 37) rfl
abbrev rX2_failAgainstMoves : Room := { frames := 3, cells := 0, slots := 0, locals := 67 }
set_option maxHeartbeats 4000000 in
set_option maxRecDepth 100000 in
theorem c_X2_failAgainstMoves (l : Launch) (D : va_G) (cI cZ cB cJ : ClassId) (A_t : Nat) (A_t_board : Nat) (A_t_cut : Nat) (A_t_counts : Nat) (A_t_strength : Nat) (A_t_reason : Nat) (A_t_driver : Nat) (A_t_waits : Nat) (A_t_stands : Nat) (A_t_board_numbers : Nat) (A_t_board_owners : Nat) (A_t_board_cells : Nat) (sz : Nat) (V_t_board_numbers : Nat → Int32) (V_t_board_cells : Nat → Int32) (V_t_strength : Nat → Int32) (V_t_reason : Nat → Int32) (w1 : Nat → Int32) (hg : g_X2_failAgainstMoves V_t_board_numbers V_t_board_cells V_t_strength V_t_reason = some w1) : Met l yX2_failAgainstMoves wsX2_failAgainstMoves rX2_failAgainstMoves (PcW D cI cZ cB cJ sz [(A_t, .inr (2, [.ref A_t_board, .ref A_t_cut, .ref A_t_counts, .ref A_t_strength, .ref A_t_reason, .ref A_t_driver, .ref A_t_waits, .ref A_t_stands])), (A_t_board, .inr (0, [.ref A_t_board_numbers, .ref A_t_board_owners, .ref A_t_board_cells])), (A_t_board_numbers, .inl (cI, 10, .inl V_t_board_numbers)), (A_t_board_cells, .inl (cI, 63, .inl V_t_board_cells)), (A_t_strength, .inl (cI, 9, .inl V_t_strength)), (A_t_reason, .inl (cI, 9, .inl V_t_reason))] [.ref A_t]) (QWv D cI cZ cB cJ sz [(A_t, .inr (2, [.ref A_t_board, .ref A_t_cut, .ref A_t_counts, .ref A_t_strength, .ref A_t_reason, .ref A_t_driver, .ref A_t_waits, .ref A_t_stands])), (A_t_board, .inr (0, [.ref A_t_board_numbers, .ref A_t_board_owners, .ref A_t_board_cells])), (A_t_board_numbers, .inl (cI, 10, .inl V_t_board_numbers)), (A_t_board_cells, .inl (cI, 63, .inl V_t_board_cells)), (A_t_strength, .inl (cI, 9, .inl V_t_strength)), (A_t_reason, .inl (cI, 9, .inl V_t_reason))] [(A_t, .inr (2, [.ref A_t_board, .ref A_t_cut, .ref A_t_counts, .ref A_t_strength, .ref A_t_reason, .ref A_t_driver, .ref A_t_waits, .ref A_t_stands])), (A_t_board, .inr (0, [.ref A_t_board_numbers, .ref A_t_board_owners, .ref A_t_board_cells])), (A_t_board_numbers, .inl (cI, 10, .inl V_t_board_numbers)), (A_t_board_cells, .inl (cI, 63, .inl V_t_board_cells)), (A_t_strength, .inl (cI, 9, .inl V_t_strength)), (A_t_reason, .inl (cI, 9, .inl w1))]) 0 0 (va_A [(A_t, .inr (2, [.ref A_t_board, .ref A_t_cut, .ref A_t_counts, .ref A_t_strength, .ref A_t_reason, .ref A_t_driver, .ref A_t_waits, .ref A_t_stands])), (A_t_board, .inr (0, [.ref A_t_board_numbers, .ref A_t_board_owners, .ref A_t_board_cells])), (A_t_board_numbers, .inl (cI, 10, .inl V_t_board_numbers)), (A_t_board_cells, .inl (cI, 63, .inl V_t_board_cells)), (A_t_strength, .inl (cI, 9, .inl V_t_strength)), (A_t_reason, .inl (cI, 9, .inl V_t_reason))] sz) := by
  refine bodyWv (cc := cX2_failAgainstMoves) (maxL := 3) (lv := [(0, .ref A_t)]) (by decide) rfl (Nat.le_of_ble_eq_true rfl) rfl ?_
  intro p e s m args below meth c Q hx hb hml hown hts A hP hK hD hA hS fin ls hl
  replace hown : s.vm.findClass RX2 = some m.cls := hown
  have S : CallFix p m c cX2_failAgainstMoves 3 s args wsX2_failAgainstMoves RX2 := ⟨hx, hb, hml, hown, hts⟩
  unfold g_X2_failAgainstMoves at hg
  refine lv_iconst (v := 0) hx hb dX2_failAgainstMoves_0 (by decide) ?_
  refine lv_istore_n (lv' := [(1, .int 0), (0, .ref A_t)]) hx hb dX2_failAgainstMoves_1 rfl hl (by decide) rfl (fun ls hl => ?_)
  obtain ⟨f9, hL, hg⟩ := bind_ex hg
  have kx : ∀ (H : Heap) (locs : List Loc), va_P D vwCl [(A_t, .inr (2, [.ref A_t_board, .ref A_t_cut, .ref A_t_counts, .ref A_t_strength, .ref A_t_reason, .ref A_t_driver, .ref A_t_waits, .ref A_t_stands])), (A_t_board, .inr (0, [.ref A_t_board_numbers, .ref A_t_board_owners, .ref A_t_board_cells])), (A_t_board_numbers, .inl (cI, 10, .inl V_t_board_numbers)), (A_t_board_cells, .inl (cI, 63, .inl V_t_board_cells)), (A_t_strength, .inl (cI, 9, .inl V_t_strength)), (A_t_reason, .inl (cI, 9, .inl f9))] H → va_D A [(A_t, .inr (2, [.ref A_t_board, .ref A_t_cut, .ref A_t_counts, .ref A_t_strength, .ref A_t_reason, .ref A_t_driver, .ref A_t_waits, .ref A_t_stands])), (A_t_board, .inr (0, [.ref A_t_board_numbers, .ref A_t_board_owners, .ref A_t_board_cells])), (A_t_board_numbers, .inl (cI, 10, .inl V_t_board_numbers)), (A_t_board_cells, .inl (cI, 63, .inl V_t_board_cells)), (A_t_strength, .inl (cI, 9, .inl V_t_strength)), (A_t_reason, .inl (cI, 9, .inl f9))] → va_S A s.heap H locs → ∀ ls : Array Slot, lv_has ls 3 [] → W p l e rX2_failAgainstMoves s m args below meth c H locs 0 0 Q (F0 m 65 ls []) := by
    intro H locs hP hD hS ls hl
    cases hg
    exact fin _ _ _ _ dX2_failAgainstMoves_65 hP hD hS
  have L : ∀ (nf : Nat) (v1 : Int32) (f2 : Nat → Int32), ∀ (H : Heap) (locs : List Loc), va_P D vwCl [(A_t, .inr (2, [.ref A_t_board, .ref A_t_cut, .ref A_t_counts, .ref A_t_strength, .ref A_t_reason, .ref A_t_driver, .ref A_t_waits, .ref A_t_stands])), (A_t_board, .inr (0, [.ref A_t_board_numbers, .ref A_t_board_owners, .ref A_t_board_cells])), (A_t_board_numbers, .inl (cI, 10, .inl V_t_board_numbers)), (A_t_board_cells, .inl (cI, 63, .inl V_t_board_cells)), (A_t_strength, .inl (cI, 9, .inl V_t_strength)), (A_t_reason, .inl (cI, 9, .inl f2))] H → va_D A [(A_t, .inr (2, [.ref A_t_board, .ref A_t_cut, .ref A_t_counts, .ref A_t_strength, .ref A_t_reason, .ref A_t_driver, .ref A_t_waits, .ref A_t_stands])), (A_t_board, .inr (0, [.ref A_t_board_numbers, .ref A_t_board_owners, .ref A_t_board_cells])), (A_t_board_numbers, .inl (cI, 10, .inl V_t_board_numbers)), (A_t_board_cells, .inl (cI, 63, .inl V_t_board_cells)), (A_t_strength, .inl (cI, 9, .inl V_t_strength)), (A_t_reason, .inl (cI, 9, .inl f2))] → va_S A s.heap H locs → ∀ ls : Array Slot, lv_has ls 3 [(1, .int v1), (0, .ref A_t)] → g_X2_failAgainstMoves_L1 V_t_board_numbers V_t_board_cells V_t_strength nf v1 f2 = some f9 → W p l e rX2_failAgainstMoves s m args below meth c H locs 0 0 Q (F0 m 2 ls []) := by
    intro nf
    induction nf with
    | zero =>
      intro v1 f2 H locs hP hD hS ls hl hg
      exact no_some hg
    | succ nf ih =>
      intro v1 f2 H locs hP hD hS ls hl hg
      rw [g_X2_failAgainstMoves_L1] at hg
      refine lv_iload_n hx hb dX2_failAgainstMoves_2 rfl (lv_at hl 0 rfl) ?_
      refine lv_aload_n hx hb dX2_failAgainstMoves_3 rfl (lv_at hl 1 rfl) ?_
      refine xget (ci := 2) (C := RX2) (T := TX2) (N := 8) (v := .ref A_t_board) hx hb hts in_X2_failAgainstMoves_X2 hown hK hP 0 rfl rfl 0 (by decide) wd_X2_failAgainstMoves_1 rfl dX2_failAgainstMoves_4 ?_
      refine lv_iconst (v := 0) hx hb dX2_failAgainstMoves_7 (by decide) ?_
      obtain ⟨v3, hq, hg⟩ := bind_ex hg
      refine callRVi (As := [.int 0]) (rest := [.int v1]) S hK hP (c_X0_number l D cI cZ cB cJ A_t_board A_t_board_numbers A_t_board_owners A_t_board_cells V_t_board_numbers 0 v3 hq) [1, 2] rfl (cwV 1 hts gX2_failAgainstMoves_X0_number rfl rfl rfl hd_X0_number ⟨Nat.le_of_ble_eq_true rfl, Nat.le_of_ble_eq_true rfl⟩) rfl rfl rfl hl.1 rfl (Nat.le_of_ble_eq_true rfl) dX2_failAgainstMoves_8 ⟨Nat.zero_le _, Nat.zero_le _⟩ ?_
      refine lv_icmp_ge (tgt := 65) hx hb dX2_failAgainstMoves_11 (by decide) (fun hc => ?_) (fun hc => ?_)
      · replace hg := if_yes hg hc
        cases hg
        exact kx _ _ hP hD hS _ (lv_sub hl [] rfl)
      · replace hg := if_no hg hc
        refine lv_iconst (v := 0) hx hb dX2_failAgainstMoves_14 (by decide) ?_
        refine lv_istore_n (lv' := [(2, .int 0), (1, .int v1), (0, .ref A_t)]) hx hb dX2_failAgainstMoves_15 rfl hl (by decide) rfl (fun ls hl => ?_)
        refine lv_aload_n hx hb dX2_failAgainstMoves_16 rfl (lv_at hl 2 rfl) ?_
        refine lv_iload_n hx hb dX2_failAgainstMoves_17 rfl (lv_at hl 1 rfl) ?_
        obtain ⟨v4, hq, hg⟩ := bind_ex hg
        refine callRVz (As := [.int v1]) (rest := []) S hK hP (c_X2_moves l D cI cZ cB cJ A_t A_t_board A_t_cut A_t_counts A_t_strength A_t_reason A_t_driver A_t_waits A_t_stands A_t_board_numbers A_t_board_owners A_t_board_cells V_t_board_cells v1 v4 hq) [0, 1, 3] rfl (cwV 1 hts gX2_failAgainstMoves_X2_moves rfl rfl rfl hd_X2_moves ⟨Nat.le_of_ble_eq_true rfl, Nat.le_of_ble_eq_true rfl⟩) rfl rfl rfl hl.1 rfl (Nat.le_of_ble_eq_true rfl) dX2_failAgainstMoves_18 ⟨Nat.zero_le _, Nat.zero_le _⟩ (fun hz_v4 => ?_)
        have hJ1 : ∀ (v7 : Int32), ∀ (H : Heap) (locs : List Loc), va_P D vwCl [(A_t, .inr (2, [.ref A_t_board, .ref A_t_cut, .ref A_t_counts, .ref A_t_strength, .ref A_t_reason, .ref A_t_driver, .ref A_t_waits, .ref A_t_stands])), (A_t_board, .inr (0, [.ref A_t_board_numbers, .ref A_t_board_owners, .ref A_t_board_cells])), (A_t_board_numbers, .inl (cI, 10, .inl V_t_board_numbers)), (A_t_board_cells, .inl (cI, 63, .inl V_t_board_cells)), (A_t_strength, .inl (cI, 9, .inl V_t_strength)), (A_t_reason, .inl (cI, 9, .inl f2))] H → va_D A [(A_t, .inr (2, [.ref A_t_board, .ref A_t_cut, .ref A_t_counts, .ref A_t_strength, .ref A_t_reason, .ref A_t_driver, .ref A_t_waits, .ref A_t_stands])), (A_t_board, .inr (0, [.ref A_t_board_numbers, .ref A_t_board_owners, .ref A_t_board_cells])), (A_t_board_numbers, .inl (cI, 10, .inl V_t_board_numbers)), (A_t_board_cells, .inl (cI, 63, .inl V_t_board_cells)), (A_t_strength, .inl (cI, 9, .inl V_t_strength)), (A_t_reason, .inl (cI, 9, .inl f2))] → va_S A s.heap H locs → ∀ ls : Array Slot, lv_has ls 3 [(2, .int v7), (1, .int v1), (0, .ref A_t)] → g_X2_failAgainstMoves_J1 f2 v1 (g_X2_failAgainstMoves_L1 V_t_board_numbers V_t_board_cells V_t_strength nf) v7 = some f9 → W p l e rX2_failAgainstMoves s m args below meth c H locs 0 0 Q (F0 m 50 ls []) := by
          intro v7 H locs hP hD hS ls hl hg
          unfold g_X2_failAgainstMoves_J1 at hg
          refine lv_aload_n hx hb dX2_failAgainstMoves_50 rfl (lv_at hl 2 rfl) ?_
          refine xget (ci := 2) (C := RX2) (T := TX2) (N := 8) (v := .ref A_t_reason) hx hb hts in_X2_failAgainstMoves_X2 hown hK hP 0 rfl rfl 4 (by decide) wd_X2_failAgainstMoves_2 rfl dX2_failAgainstMoves_51 ?_
          refine lv_iload_n hx hb dX2_failAgainstMoves_54 rfl (lv_at hl 1 rfl) ?_
          refine lv_iload_n hx hb dX2_failAgainstMoves_55 rfl (lv_at hl 0 rfl) ?_
          obtain ⟨f8, hq, hg⟩ := bind_ex hg
          refine callWNv (As := [.ref A_t_reason, .int v1, .int v7]) (rest := []) (wr := [(A_t, .inr (2, [.ref A_t_board, .ref A_t_cut, .ref A_t_counts, .ref A_t_strength, .ref A_t_reason, .ref A_t_driver, .ref A_t_waits, .ref A_t_stands])), (A_t_board, .inr (0, [.ref A_t_board_numbers, .ref A_t_board_owners, .ref A_t_board_cells])), (A_t_board_numbers, .inl (cI, 10, .inl V_t_board_numbers)), (A_t_board_cells, .inl (cI, 63, .inl V_t_board_cells)), (A_t_strength, .inl (cI, 9, .inl V_t_strength))]) S hK hP hD hS hA (c_X4_enter l D cI cZ cB cJ A_t_reason 9 _ f2 v1 v7 f8 hq) [5] [0, 1, 2, 3, 4] rfl rfl (by decide +kernel) (by decide +kernel) (by decide +kernel) ⟨va_cnB 3 hts gX2_failAgainstMoves_X4_enter_n76 rfl rfl rfl (hK.2 _ (List.mem_of_getElem? (i := 5) rfl)) (hts _ wd_X2_failAgainstMoves_25) hd_X4_enter ⟨Nat.le_of_ble_eq_true rfl, Nat.le_of_ble_eq_true rfl⟩, hts _ wd_X2_failAgainstMoves_37, trivial⟩ rfl hl.1 rfl (Nat.le_of_ble_eq_true rfl) dX2_failAgainstMoves_56 ⟨Nat.zero_le _, Nat.zero_le _⟩ (fun H locs hP hD hS => ?_)
          replace hP : va_P D vwCl [(A_t, .inr (2, [.ref A_t_board, .ref A_t_cut, .ref A_t_counts, .ref A_t_strength, .ref A_t_reason, .ref A_t_driver, .ref A_t_waits, .ref A_t_stands])), (A_t_board, .inr (0, [.ref A_t_board_numbers, .ref A_t_board_owners, .ref A_t_board_cells])), (A_t_board_numbers, .inl (cI, 10, .inl V_t_board_numbers)), (A_t_board_cells, .inl (cI, 63, .inl V_t_board_cells)), (A_t_strength, .inl (cI, 9, .inl V_t_strength)), (A_t_reason, .inl (cI, 9, .inl f8))] H := hP
          replace hD : va_D A [(A_t, .inr (2, [.ref A_t_board, .ref A_t_cut, .ref A_t_counts, .ref A_t_strength, .ref A_t_reason, .ref A_t_driver, .ref A_t_waits, .ref A_t_stands])), (A_t_board, .inr (0, [.ref A_t_board_numbers, .ref A_t_board_owners, .ref A_t_board_cells])), (A_t_board_numbers, .inl (cI, 10, .inl V_t_board_numbers)), (A_t_board_cells, .inl (cI, 63, .inl V_t_board_cells)), (A_t_strength, .inl (cI, 9, .inl V_t_strength)), (A_t_reason, .inl (cI, 9, .inl f8))] := hD
          refine lv_iinc (v := (v1 + 1)) (lv' := [(1, .int (v1 + 1)), (2, .int v7), (0, .ref A_t)]) hx hb dX2_failAgainstMoves_59 hl (k := 1) rfl rfl (by decide) rfl (fun ls hl => ?_)
          refine lv_goto (tgt := 2) hx hb dX2_failAgainstMoves_62 (by decide) ?_
          exact ih _ _ _ _ hP hD hS _ (lv_sub hl [0, 2] rfl) hg
        refine lv_if_eq (tgt := 50) hx hb dX2_failAgainstMoves_21 (by decide) (fun hc => ?_) (fun hc => ?_)
        · replace hg := if_yes hg hc
          exact hJ1 _ _ _ hP hD hS _ (lv_sub hl [0, 1, 2] rfl) hg
        · replace hg := if_no hg hc
          refine lv_aload_n hx hb dX2_failAgainstMoves_24 rfl (lv_at hl 2 rfl) ?_
          refine lv_iload_n hx hb dX2_failAgainstMoves_25 rfl (lv_at hl 1 rfl) ?_
          obtain ⟨v5, hq, hg⟩ := bind_ex hg
          refine callRVz (As := [.int v1]) (rest := []) S hK hP (c_X2_hasRival l D cI cZ cB cJ A_t A_t_board A_t_cut A_t_counts A_t_strength A_t_reason A_t_driver A_t_waits A_t_stands A_t_board_numbers A_t_board_owners A_t_board_cells V_t_board_numbers V_t_board_cells V_t_strength v1 v5 hq) [0, 1, 2, 3, 4] rfl (cwV 1 hts gX2_failAgainstMoves_X2_hasRival rfl rfl rfl hd_X2_hasRival ⟨Nat.le_of_ble_eq_true rfl, Nat.le_of_ble_eq_true rfl⟩) rfl rfl rfl hl.1 rfl (Nat.le_of_ble_eq_true rfl) dX2_failAgainstMoves_26 ⟨Nat.zero_le _, Nat.zero_le _⟩ (fun hz_v5 => ?_)
          refine lv_if_eq (tgt := 36) hx hb dX2_failAgainstMoves_29 (by decide) (fun hc => ?_) (fun hc => ?_)
          · replace hg := if_yes hg hc
            refine lv_aload_n hx hb dX2_failAgainstMoves_36 rfl (lv_at hl 2 rfl) ?_
            refine lv_iload_n hx hb dX2_failAgainstMoves_37 rfl (lv_at hl 1 rfl) ?_
            obtain ⟨v6, hq, hg⟩ := bind_ex hg
            refine callRVz (As := [.int v1]) (rest := []) S hK hP (c_X2_losesSwap l D cI cZ cB cJ A_t A_t_board A_t_cut A_t_counts A_t_strength A_t_reason A_t_driver A_t_waits A_t_stands A_t_board_numbers A_t_board_owners A_t_board_cells V_t_board_cells V_t_board_numbers V_t_strength v1 v6 hq) [0, 1, 3, 2, 4] rfl (cwV 1 hts gX2_failAgainstMoves_X2_losesSwap rfl rfl rfl hd_X2_losesSwap ⟨Nat.le_of_ble_eq_true rfl, Nat.le_of_ble_eq_true rfl⟩) rfl rfl rfl hl.1 rfl (Nat.le_of_ble_eq_true rfl) dX2_failAgainstMoves_38 ⟨Nat.zero_le _, Nat.zero_le _⟩ (fun hz_v6 => ?_)
            refine lv_if_eq (tgt := 48) hx hb dX2_failAgainstMoves_41 (by decide) (fun hc => ?_) (fun hc => ?_)
            · replace hg := if_yes hg hc
              refine lv_iconst (v := 0) hx hb dX2_failAgainstMoves_48 (by decide) ?_
              refine lv_istore_n (lv' := [(2, .int 0), (1, .int v1), (0, .ref A_t)]) hx hb dX2_failAgainstMoves_49 rfl hl (by decide) rfl (fun ls hl => ?_)
              exact hJ1 _ _ _ hP hD hS _ (lv_sub hl [0, 1, 2] rfl) hg
            · replace hg := if_no hg hc
              refine lv_iconst (v := 2) hx hb dX2_failAgainstMoves_44 (by decide) ?_
              refine lv_goto (tgt := 49) hx hb dX2_failAgainstMoves_45 (by decide) ?_
              refine lv_istore_n (lv' := [(2, .int 2), (1, .int v1), (0, .ref A_t)]) hx hb dX2_failAgainstMoves_49 rfl hl (by decide) rfl (fun ls hl => ?_)
              exact hJ1 _ _ _ hP hD hS _ (lv_sub hl [0, 1, 2] rfl) hg
          · replace hg := if_no hg hc
            refine lv_iconst (v := 1) hx hb dX2_failAgainstMoves_32 (by decide) ?_
            refine lv_goto (tgt := 49) hx hb dX2_failAgainstMoves_33 (by decide) ?_
            refine lv_istore_n (lv' := [(2, .int 1), (1, .int v1), (0, .ref A_t)]) hx hb dX2_failAgainstMoves_49 rfl hl (by decide) rfl (fun ls hl => ?_)
            exact hJ1 _ _ _ hP hD hS _ (lv_sub hl [0, 1, 2] rfl) hg
  exact L FU _ _ _ _ hP hD hS _ (lv_sub hl [0, 1] rfl) hL
theorem hd_X2_goes : yX2_goes.cls = RX2 ∧ yX2_goes.cls ≠ "java/lang/invoke/MethodHandle" ∧ yX2_goes.cls ≠ "java/lang/invoke/VarHandle" ∧ (parseMethodDescriptor yX2_goes.desc).map (fun d => d.parameters.length) = some 1 := by decide +kernel
theorem in_X2_goes_X2 : ∀ w ∈ u_ws RX2 TX2 8, w ∈ wsX2_goes := fun _ h => List.mem_cons_of_mem _ (List.mem_append_left _ (List.mem_append_right _ h))
theorem wd_X2_goes_1 : Cond.fieldLink RX2 12 "FogOrders$Opening" "board" "LFogOrders$Board;" ∈ wsX2_goes := List.mem_of_getElem? (i := 1) rfl
theorem wd_X2_goes_2 : Cond.fieldLink RX2 28 "FogOrders$Opening" "reason" "[I" ∈ wsX2_goes := List.mem_of_getElem? (i := 2) rfl
theorem wd_X2_goes_10 : Cond.initialized RX4 ∈ wsX2_goes := List.mem_of_getElem? (i := 10) rfl
theorem wd_X2_goes_9 : Cond.static yX4_entry ∈ wsX2_goes := List.mem_of_getElem? (i := 9) rfl
abbrev rX2_goes : Room := { frames := 1, cells := 0, slots := 0, locals := 23 }
set_option maxHeartbeats 4000000 in
set_option maxRecDepth 100000 in
theorem c_X2_goes (l : Launch) (D : va_G) (cI cZ cB cJ : ClassId) (A_t : Nat) (A_t_board : Nat) (A_t_cut : Nat) (A_t_counts : Nat) (A_t_strength : Nat) (A_t_reason : Nat) (A_t_driver : Nat) (A_t_waits : Nat) (A_t_stands : Nat) (A_t_board_numbers : Nat) (A_t_board_owners : Nat) (A_t_board_cells : Nat) (V_t_board_cells : Nat → Int32) (V_t_reason : Nat → Int32) (x1 : Int32) (r0 : Int32) (hg : g_X2_goes V_t_board_cells V_t_reason x1 = some r0) : Met l yX2_goes wsX2_goes rX2_goes (PcR D cI cZ cB cJ [(A_t, .inr (2, [.ref A_t_board, .ref A_t_cut, .ref A_t_counts, .ref A_t_strength, .ref A_t_reason, .ref A_t_driver, .ref A_t_waits, .ref A_t_stands])), (A_t_board, .inr (0, [.ref A_t_board_numbers, .ref A_t_board_owners, .ref A_t_board_cells])), (A_t_board_cells, .inl (cI, 63, .inl V_t_board_cells)), (A_t_reason, .inl (cI, 9, .inl V_t_reason))] [.ref A_t, .int x1]) (vp_Si (fun r' => r' = r0 ∧ bo r0)) 0 0 (fun _ => False) := by
  refine bodyRz (cc := cX2_goes) (maxL := 2) (lv := [(0, .ref A_t), (1, .int x1)]) (by decide) rfl (Nat.le_of_ble_eq_true rfl) rfl ?_
  intro p e s m args below meth c Q hx hb hml hown hts hP hK fin ls hl
  replace hown : s.vm.findClass RX2 = some m.cls := hown
  have S : CallFix p m c cX2_goes 2 s args wsX2_goes RX2 := ⟨hx, hb, hml, hown, hts⟩
  unfold g_X2_goes at hg
  refine lv_aload_n hx hb dX2_goes_0 rfl (lv_at hl 0 rfl) ?_
  refine xget (ci := 2) (C := RX2) (T := TX2) (N := 8) (v := .ref A_t_board) hx hb hts in_X2_goes_X2 hown hK hP 0 rfl rfl 0 (by decide) wd_X2_goes_1 rfl dX2_goes_1 ?_
  refine lv_iload_n hx hb dX2_goes_4 rfl (lv_at hl 1 rfl) ?_
  refine lv_iconst (v := 2) hx hb dX2_goes_5 (by decide) ?_
  obtain ⟨v1, hq, hg⟩ := bind_ex hg
  refine callRVi (As := [.int x1, .int 2]) (rest := []) S hK hP (c_X0_of l D cI cZ cB cJ A_t_board A_t_board_numbers A_t_board_owners A_t_board_cells V_t_board_cells x1 2 v1 hq) [1, 2] rfl (cwV 2 hts gX2_goes_X0_of rfl rfl rfl hd_X0_of ⟨Nat.le_of_ble_eq_true rfl, Nat.le_of_ble_eq_true rfl⟩) rfl rfl rfl hl.1 rfl (Nat.le_of_ble_eq_true rfl) dX2_goes_6 ⟨Nat.zero_le _, Nat.zero_le _⟩ ?_
  refine lv_iconst (v := 1) hx hb dX2_goes_9 (by decide) ?_
  refine lv_icmp_ne (tgt := 28) hx hb dX2_goes_10 (by decide) (fun hc => ?_) (fun hc => ?_)
  · replace hg := if_no hg hc
    refine lv_iconst (v := 0) hx hb dX2_goes_28 (by decide) ?_
    cases hg
    exact fin _ _ bo_0 dX2_goes_29
  · replace hg := if_yes hg hc
    refine lv_aload_n hx hb dX2_goes_13 rfl (lv_at hl 0 rfl) ?_
    refine xget (ci := 2) (C := RX2) (T := TX2) (N := 8) (v := .ref A_t_reason) hx hb hts in_X2_goes_X2 hown hK hP 0 rfl rfl 4 (by decide) wd_X2_goes_2 rfl dX2_goes_14 ?_
    refine lv_iload_n hx hb dX2_goes_17 rfl (lv_at hl 1 rfl) ?_
    obtain ⟨v2, hq, hg⟩ := bind_ex hg
    refine callRNi (As := [.ref A_t_reason, .int x1]) (rest := []) S hK hP (c_X4_entry l D cI cZ cB cJ A_t_reason 9 V_t_reason x1 v2 hq) [3] rfl ⟨va_cnB 2 hts gX2_goes_X4_entry_n89 rfl rfl rfl (hK.2 _ (List.mem_of_getElem? (i := 6) rfl)) (hts _ wd_X2_goes_10) hd_X4_entry ⟨Nat.le_of_ble_eq_true rfl, Nat.le_of_ble_eq_true rfl⟩, hts _ wd_X2_goes_9, trivial⟩ rfl hl.1 rfl (Nat.le_of_ble_eq_true rfl) dX2_goes_18 ⟨Nat.zero_le _, Nat.zero_le _⟩ ?_
    refine lv_if_ne (tgt := 28) hx hb dX2_goes_21 (by decide) (fun hc => ?_) (fun hc => ?_)
    · replace hg := if_no hg hc
      refine lv_iconst (v := 0) hx hb dX2_goes_28 (by decide) ?_
      cases hg
      exact fin _ _ bo_0 dX2_goes_29
    · replace hg := if_yes hg hc
      refine lv_iconst (v := 1) hx hb dX2_goes_24 (by decide) ?_
      refine lv_goto (tgt := 29) hx hb dX2_goes_25 (by decide) ?_
      cases hg
      exact fin _ _ bo_1 dX2_goes_29
theorem hd_X2_blockOf : yX2_blockOf.cls = RX2 ∧ yX2_blockOf.cls ≠ "java/lang/invoke/MethodHandle" ∧ yX2_blockOf.cls ≠ "java/lang/invoke/VarHandle" ∧ (parseMethodDescriptor yX2_blockOf.desc).map (fun d => d.parameters.length) = some 1 := by decide +kernel
theorem in_X2_blockOf_X2 : ∀ w ∈ u_ws RX2 TX2 8, w ∈ wsX2_blockOf := fun _ h => List.mem_cons_of_mem _ (List.mem_append_left _ (List.mem_append_right _ h))
theorem wd_X2_blockOf_1 : Cond.fieldLink RX2 12 "FogOrders$Opening" "board" "LFogOrders$Board;" ∈ wsX2_blockOf := List.mem_of_getElem? (i := 1) rfl
theorem wd_X2_blockOf_2 : Cond.fieldLink RX2 25 "FogOrders$Opening" "strength" "[I" ∈ wsX2_blockOf := List.mem_of_getElem? (i := 2) rfl
theorem wd_X2_blockOf_26 : Cond.initialized RX4 ∈ wsX2_blockOf := List.mem_of_getElem? (i := 26) rfl
theorem wd_X2_blockOf_25 : Cond.static yX4_entry ∈ wsX2_blockOf := List.mem_of_getElem? (i := 25) rfl
abbrev rX2_blockOf : Room := { frames := 2, cells := 0, slots := 0, locals := 45 }
set_option maxHeartbeats 4000000 in
set_option maxRecDepth 100000 in
theorem c_X2_blockOf (l : Launch) (D : va_G) (cI cZ cB cJ : ClassId) (A_t : Nat) (A_t_board : Nat) (A_t_cut : Nat) (A_t_counts : Nat) (A_t_strength : Nat) (A_t_reason : Nat) (A_t_driver : Nat) (A_t_waits : Nat) (A_t_stands : Nat) (A_t_board_numbers : Nat) (A_t_board_owners : Nat) (A_t_board_cells : Nat) (V_t_board_cells : Nat → Int32) (V_t_board_numbers : Nat → Int32) (V_t_reason : Nat → Int32) (V_t_strength : Nat → Int32) (x1 : Int32) (r0 : Int32) (hg : g_X2_blockOf V_t_board_cells V_t_board_numbers V_t_reason V_t_strength x1 = some r0) : Met l yX2_blockOf wsX2_blockOf rX2_blockOf (PcR D cI cZ cB cJ [(A_t, .inr (2, [.ref A_t_board, .ref A_t_cut, .ref A_t_counts, .ref A_t_strength, .ref A_t_reason, .ref A_t_driver, .ref A_t_waits, .ref A_t_stands])), (A_t_board, .inr (0, [.ref A_t_board_numbers, .ref A_t_board_owners, .ref A_t_board_cells])), (A_t_board_cells, .inl (cI, 63, .inl V_t_board_cells)), (A_t_board_numbers, .inl (cI, 10, .inl V_t_board_numbers)), (A_t_reason, .inl (cI, 9, .inl V_t_reason)), (A_t_strength, .inl (cI, 9, .inl V_t_strength))] [.ref A_t, .int x1]) (vp_Si (fun r' => r' = r0 ∧ True)) 0 0 (fun _ => False) := by
  refine bodyRi (cc := cX2_blockOf) (maxL := 4) (lv := [(0, .ref A_t), (1, .int x1)]) (by decide) rfl (Nat.le_of_ble_eq_true rfl) rfl ?_
  intro p e s m args below meth c Q hx hb hml hown hts hP hK fin ls hl
  replace hown : s.vm.findClass RX2 = some m.cls := hown
  have S : CallFix p m c cX2_blockOf 4 s args wsX2_blockOf RX2 := ⟨hx, hb, hml, hown, hts⟩
  unfold g_X2_blockOf at hg
  refine lv_aload_n hx hb dX2_blockOf_0 rfl (lv_at hl 0 rfl) ?_
  refine xget (ci := 2) (C := RX2) (T := TX2) (N := 8) (v := .ref A_t_board) hx hb hts in_X2_blockOf_X2 hown hK hP 0 rfl rfl 0 (by decide) wd_X2_blockOf_1 rfl dX2_blockOf_1 ?_
  refine lv_aload_n hx hb dX2_blockOf_4 rfl (lv_at hl 0 rfl) ?_
  refine xget (ci := 2) (C := RX2) (T := TX2) (N := 8) (v := .ref A_t_board) hx hb hts in_X2_blockOf_X2 hown hK hP 0 rfl rfl 0 (by decide) wd_X2_blockOf_1 rfl dX2_blockOf_5 ?_
  refine lv_iload_n hx hb dX2_blockOf_8 rfl (lv_at hl 1 rfl) ?_
  refine lv_iconst (v := 3) hx hb dX2_blockOf_9 (by decide) ?_
  obtain ⟨v1, hq, hg⟩ := bind_ex hg
  refine callRVi (As := [.int x1, .int 3]) (rest := [.ref A_t_board]) S hK hP (c_X0_of l D cI cZ cB cJ A_t_board A_t_board_numbers A_t_board_owners A_t_board_cells V_t_board_cells x1 3 v1 hq) [1, 2] rfl (cwV 2 hts gX2_blockOf_X0_of rfl rfl rfl hd_X0_of ⟨Nat.le_of_ble_eq_true rfl, Nat.le_of_ble_eq_true rfl⟩) rfl rfl rfl hl.1 rfl (Nat.le_of_ble_eq_true rfl) dX2_blockOf_10 ⟨Nat.zero_le _, Nat.zero_le _⟩ ?_
  obtain ⟨v2, hq, hg⟩ := bind_ex hg
  refine callRVi (As := [.int v1]) (rest := []) S hK hP (c_X0_armyOn l D cI cZ cB cJ A_t_board A_t_board_numbers A_t_board_owners A_t_board_cells V_t_board_numbers V_t_board_cells v1 v2 hq) [1, 3, 2] rfl (cwV 1 hts gX2_blockOf_X0_armyOn rfl rfl rfl hd_X0_armyOn ⟨Nat.le_of_ble_eq_true rfl, Nat.le_of_ble_eq_true rfl⟩) rfl rfl rfl hl.1 rfl (Nat.le_of_ble_eq_true rfl) dX2_blockOf_13 ⟨Nat.zero_le _, Nat.zero_le _⟩ ?_
  refine lv_istore_n (lv' := [(2, .int v2), (0, .ref A_t), (1, .int x1)]) hx hb dX2_blockOf_16 rfl hl (by decide) rfl (fun ls hl => ?_)
  refine lv_iload_n hx hb dX2_blockOf_17 rfl (lv_at hl 0 rfl) ?_
  refine lv_iconst (v := (-1)) hx hb dX2_blockOf_18 (by decide) ?_
  refine lv_icmp_eq (tgt := 30) hx hb dX2_blockOf_19 (by decide) (fun hc => ?_) (fun hc => ?_)
  · replace hg := if_yes hg hc
    refine lv_iconst (v := 0) hx hb dX2_blockOf_30 (by decide) ?_
    cases hg
    exact fin _ _ dX2_blockOf_31
  · replace hg := if_no hg hc
    refine lv_aload_n hx hb dX2_blockOf_22 rfl (lv_at hl 1 rfl) ?_
    refine lv_iload_n hx hb dX2_blockOf_23 rfl (lv_at hl 0 rfl) ?_
    obtain ⟨v3, hq, hg⟩ := bind_ex hg
    refine callRVz (As := [.int v2]) (rest := []) S hK hP (c_X2_goes l D cI cZ cB cJ A_t A_t_board A_t_cut A_t_counts A_t_strength A_t_reason A_t_driver A_t_waits A_t_stands A_t_board_numbers A_t_board_owners A_t_board_cells V_t_board_cells V_t_reason v2 v3 hq) [0, 1, 2, 4] rfl (cwV 1 hts gX2_blockOf_X2_goes rfl rfl rfl hd_X2_goes ⟨Nat.le_of_ble_eq_true rfl, Nat.le_of_ble_eq_true rfl⟩) rfl rfl rfl hl.1 rfl (Nat.le_of_ble_eq_true rfl) dX2_blockOf_24 ⟨Nat.zero_le _, Nat.zero_le _⟩ (fun hz_v3 => ?_)
    refine lv_if_eq (tgt := 32) hx hb dX2_blockOf_27 (by decide) (fun hc => ?_) (fun hc => ?_)
    · replace hg := if_yes hg hc
      refine lv_aload_n hx hb dX2_blockOf_32 rfl (lv_at hl 1 rfl) ?_
      refine xget (ci := 2) (C := RX2) (T := TX2) (N := 8) (v := .ref A_t_board) hx hb hts in_X2_blockOf_X2 hown hK hP 0 rfl rfl 0 (by decide) wd_X2_blockOf_1 rfl dX2_blockOf_33 ?_
      refine lv_iload_n hx hb dX2_blockOf_36 rfl (lv_at hl 0 rfl) ?_
      refine lv_iconst (v := 0) hx hb dX2_blockOf_37 (by decide) ?_
      obtain ⟨v4, hq, hg⟩ := bind_ex hg
      refine callRVi (As := [.int v2, .int 0]) (rest := []) S hK hP (c_X0_of l D cI cZ cB cJ A_t_board A_t_board_numbers A_t_board_owners A_t_board_cells V_t_board_cells v2 0 v4 hq) [1, 2] rfl (cwV 2 hts gX2_blockOf_X0_of rfl rfl rfl hd_X0_of ⟨Nat.le_of_ble_eq_true rfl, Nat.le_of_ble_eq_true rfl⟩) rfl rfl rfl hl.1 rfl (Nat.le_of_ble_eq_true rfl) dX2_blockOf_38 ⟨Nat.zero_le _, Nat.zero_le _⟩ ?_
      refine lv_aload_n hx hb dX2_blockOf_41 rfl (lv_at hl 1 rfl) ?_
      refine xget (ci := 2) (C := RX2) (T := TX2) (N := 8) (v := .ref A_t_board) hx hb hts in_X2_blockOf_X2 hown hK hP 0 rfl rfl 0 (by decide) wd_X2_blockOf_1 rfl dX2_blockOf_42 ?_
      refine lv_iload_n hx hb dX2_blockOf_45 rfl (lv_at hl 2 rfl) ?_
      refine lv_iconst (v := 0) hx hb dX2_blockOf_46 (by decide) ?_
      obtain ⟨v5, hq, hg⟩ := bind_ex hg
      refine callRVi (As := [.int x1, .int 0]) (rest := [.int v4]) S hK hP (c_X0_of l D cI cZ cB cJ A_t_board A_t_board_numbers A_t_board_owners A_t_board_cells V_t_board_cells x1 0 v5 hq) [1, 2] rfl (cwV 2 hts gX2_blockOf_X0_of rfl rfl rfl hd_X0_of ⟨Nat.le_of_ble_eq_true rfl, Nat.le_of_ble_eq_true rfl⟩) rfl rfl rfl hl.1 rfl (Nat.le_of_ble_eq_true rfl) dX2_blockOf_47 ⟨Nat.zero_le _, Nat.zero_le _⟩ ?_
      refine lv_icmp_ne (tgt := 55) hx hb dX2_blockOf_50 (by decide) (fun hc => ?_) (fun hc => ?_)
      · replace hg := if_no hg hc
        refine lv_aload_n hx hb dX2_blockOf_55 rfl (lv_at hl 1 rfl) ?_
        refine lv_iload_n hx hb dX2_blockOf_56 rfl (lv_at hl 0 rfl) ?_
        obtain ⟨v6, hq, hg⟩ := bind_ex hg
        refine callRVz (As := [.int v2]) (rest := []) S hK hP (c_X2_moves l D cI cZ cB cJ A_t A_t_board A_t_cut A_t_counts A_t_strength A_t_reason A_t_driver A_t_waits A_t_stands A_t_board_numbers A_t_board_owners A_t_board_cells V_t_board_cells v2 v6 hq) [0, 1, 2] rfl (cwV 1 hts gX2_blockOf_X2_moves rfl rfl rfl hd_X2_moves ⟨Nat.le_of_ble_eq_true rfl, Nat.le_of_ble_eq_true rfl⟩) rfl rfl rfl hl.1 rfl (Nat.le_of_ble_eq_true rfl) dX2_blockOf_57 ⟨Nat.zero_le _, Nat.zero_le _⟩ (fun hz_v6 => ?_)
        have hJ1 : ∀ (v8 : Int32), ∀ ls : Array Slot, lv_has ls 4 [(0, .ref A_t), (1, .int x1)] → g_X2_blockOf_J1 V_t_strength x1 v8 = some r0 → W p l e rX2_blockOf s m args below meth c s.heap [] 0 0 Q (F0 m 75 ls [.int v8]) := by
          intro v8 ls hl hg
          unfold g_X2_blockOf_J1 at hg
          refine lv_istore_n (lv' := [(3, .int v8), (0, .ref A_t), (1, .int x1)]) hx hb dX2_blockOf_75 rfl hl (by decide) rfl (fun ls hl => ?_)
          refine lv_iload_n hx hb dX2_blockOf_76 rfl (lv_at hl 0 rfl) ?_
          refine lv_aload_n hx hb dX2_blockOf_77 rfl (lv_at hl 1 rfl) ?_
          refine xget (ci := 2) (C := RX2) (T := TX2) (N := 8) (v := .ref A_t_strength) hx hb hts in_X2_blockOf_X2 hown hK hP 0 rfl rfl 3 (by decide) wd_X2_blockOf_2 rfl dX2_blockOf_78 ?_
          refine lv_iload_n hx hb dX2_blockOf_81 rfl (lv_at hl 2 rfl) ?_
          obtain ⟨v9, hq, hg⟩ := bind_ex hg
          refine callRNi (As := [.ref A_t_strength, .int x1]) (rest := [.int v8]) S hK hP (c_X4_entry l D cI cZ cB cJ A_t_strength 9 V_t_strength x1 v9 hq) [5] rfl ⟨va_cnB 2 hts gX2_blockOf_X4_entry_n89 rfl rfl rfl (hK.2 _ (List.mem_of_getElem? (i := 6) rfl)) (hts _ wd_X2_blockOf_26) hd_X4_entry ⟨Nat.le_of_ble_eq_true rfl, Nat.le_of_ble_eq_true rfl⟩, hts _ wd_X2_blockOf_25, trivial⟩ rfl hl.1 rfl (Nat.le_of_ble_eq_true rfl) dX2_blockOf_82 ⟨Nat.zero_le _, Nat.zero_le _⟩ ?_
          refine lv_icmp_lt (tgt := 92) hx hb dX2_blockOf_85 (by decide) (fun hc => ?_) (fun hc => ?_)
          · replace hg := if_yes hg hc
            refine lv_iconst (v := 0) hx hb dX2_blockOf_92 (by decide) ?_
            cases hg
            exact fin _ _ dX2_blockOf_93
          · replace hg := if_no hg hc
            refine lv_iconst (v := 4) hx hb dX2_blockOf_88 (by decide) ?_
            refine lv_goto (tgt := 93) hx hb dX2_blockOf_89 (by decide) ?_
            cases hg
            exact fin _ _ dX2_blockOf_93
        refine lv_if_eq (tgt := 67) hx hb dX2_blockOf_60 (by decide) (fun hc => ?_) (fun hc => ?_)
        · replace hg := if_yes hg hc
          refine lv_aload_n hx hb dX2_blockOf_67 rfl (lv_at hl 1 rfl) ?_
          refine xget (ci := 2) (C := RX2) (T := TX2) (N := 8) (v := .ref A_t_strength) hx hb hts in_X2_blockOf_X2 hown hK hP 0 rfl rfl 3 (by decide) wd_X2_blockOf_2 rfl dX2_blockOf_68 ?_
          refine lv_iload_n hx hb dX2_blockOf_71 rfl (lv_at hl 0 rfl) ?_
          obtain ⟨v7, hq, hg⟩ := bind_ex hg
          refine callRNi (As := [.ref A_t_strength, .int v2]) (rest := []) S hK hP (c_X4_entry l D cI cZ cB cJ A_t_strength 9 V_t_strength v2 v7 hq) [5] rfl ⟨va_cnB 2 hts gX2_blockOf_X4_entry_n89 rfl rfl rfl (hK.2 _ (List.mem_of_getElem? (i := 6) rfl)) (hts _ wd_X2_blockOf_26) hd_X4_entry ⟨Nat.le_of_ble_eq_true rfl, Nat.le_of_ble_eq_true rfl⟩, hts _ wd_X2_blockOf_25, trivial⟩ rfl hl.1 rfl (Nat.le_of_ble_eq_true rfl) dX2_blockOf_72 ⟨Nat.zero_le _, Nat.zero_le _⟩ ?_
          exact hJ1 _ _ (lv_sub hl [1, 2] rfl) hg
        · replace hg := if_no hg hc
          refine lv_iconst (v := 1) hx hb dX2_blockOf_63 (by decide) ?_
          refine lv_goto (tgt := 75) hx hb dX2_blockOf_64 (by decide) ?_
          exact hJ1 _ _ (lv_sub hl [1, 2] rfl) hg
      · replace hg := if_yes hg hc
        refine lv_iconst (v := 3) hx hb dX2_blockOf_53 (by decide) ?_
        cases hg
        exact fin _ _ dX2_blockOf_54
    · replace hg := if_no hg hc
      refine lv_iconst (v := 0) hx hb dX2_blockOf_30 (by decide) ?_
      cases hg
      exact fin _ _ dX2_blockOf_31
theorem hd_X2_failAgainstArmies : yX2_failAgainstArmies.cls = RX2 ∧ yX2_failAgainstArmies.cls ≠ "java/lang/invoke/MethodHandle" ∧ yX2_failAgainstArmies.cls ≠ "java/lang/invoke/VarHandle" ∧ (parseMethodDescriptor yX2_failAgainstArmies.desc).map (fun d => d.parameters.length) = some 0 := by decide +kernel
theorem in_X2_failAgainstArmies_X2 : ∀ w ∈ u_ws RX2 TX2 8, w ∈ wsX2_failAgainstArmies := fun _ h => List.mem_cons_of_mem _ (List.mem_append_left _ (List.mem_append_right _ h))
theorem wd_X2_failAgainstArmies_1 : Cond.fieldLink RX2 12 "FogOrders$Opening" "board" "LFogOrders$Board;" ∈ wsX2_failAgainstArmies := List.mem_of_getElem? (i := 1) rfl
theorem wd_X2_failAgainstArmies_2 : Cond.fieldLink RX2 28 "FogOrders$Opening" "reason" "[I" ∈ wsX2_failAgainstArmies := List.mem_of_getElem? (i := 2) rfl
theorem wd_X2_failAgainstArmies_20 : Cond.initialized RX4 ∈ wsX2_failAgainstArmies := List.mem_of_getElem? (i := 20) rfl
theorem wd_X2_failAgainstArmies_37 : Cond.static yX4_enter ∈ wsX2_failAgainstArmies := List.mem_of_getElem? (i := 37) rfl
abbrev rX2_failAgainstArmies : Room := { frames := 3, cells := 0, slots := 0, locals := 68 }
set_option maxHeartbeats 4000000 in
set_option maxRecDepth 100000 in
theorem c_X2_failAgainstArmies (l : Launch) (D : va_G) (cI cZ cB cJ : ClassId) (A_t : Nat) (A_t_board : Nat) (A_t_cut : Nat) (A_t_counts : Nat) (A_t_strength : Nat) (A_t_reason : Nat) (A_t_driver : Nat) (A_t_waits : Nat) (A_t_stands : Nat) (A_t_board_numbers : Nat) (A_t_board_owners : Nat) (A_t_board_cells : Nat) (sz : Nat) (V_t_board_numbers : Nat → Int32) (V_t_board_cells : Nat → Int32) (V_t_reason : Nat → Int32) (V_t_strength : Nat → Int32) (w1 : Nat → Int32) (hg : g_X2_failAgainstArmies V_t_board_numbers V_t_board_cells V_t_reason V_t_strength = some w1) : Met l yX2_failAgainstArmies wsX2_failAgainstArmies rX2_failAgainstArmies (PcW D cI cZ cB cJ sz [(A_t, .inr (2, [.ref A_t_board, .ref A_t_cut, .ref A_t_counts, .ref A_t_strength, .ref A_t_reason, .ref A_t_driver, .ref A_t_waits, .ref A_t_stands])), (A_t_board, .inr (0, [.ref A_t_board_numbers, .ref A_t_board_owners, .ref A_t_board_cells])), (A_t_board_numbers, .inl (cI, 10, .inl V_t_board_numbers)), (A_t_board_cells, .inl (cI, 63, .inl V_t_board_cells)), (A_t_reason, .inl (cI, 9, .inl V_t_reason)), (A_t_strength, .inl (cI, 9, .inl V_t_strength))] [.ref A_t]) (QWv D cI cZ cB cJ sz [(A_t, .inr (2, [.ref A_t_board, .ref A_t_cut, .ref A_t_counts, .ref A_t_strength, .ref A_t_reason, .ref A_t_driver, .ref A_t_waits, .ref A_t_stands])), (A_t_board, .inr (0, [.ref A_t_board_numbers, .ref A_t_board_owners, .ref A_t_board_cells])), (A_t_board_numbers, .inl (cI, 10, .inl V_t_board_numbers)), (A_t_board_cells, .inl (cI, 63, .inl V_t_board_cells)), (A_t_reason, .inl (cI, 9, .inl V_t_reason)), (A_t_strength, .inl (cI, 9, .inl V_t_strength))] [(A_t, .inr (2, [.ref A_t_board, .ref A_t_cut, .ref A_t_counts, .ref A_t_strength, .ref A_t_reason, .ref A_t_driver, .ref A_t_waits, .ref A_t_stands])), (A_t_board, .inr (0, [.ref A_t_board_numbers, .ref A_t_board_owners, .ref A_t_board_cells])), (A_t_board_numbers, .inl (cI, 10, .inl V_t_board_numbers)), (A_t_board_cells, .inl (cI, 63, .inl V_t_board_cells)), (A_t_reason, .inl (cI, 9, .inl w1)), (A_t_strength, .inl (cI, 9, .inl V_t_strength))]) 0 0 (va_A [(A_t, .inr (2, [.ref A_t_board, .ref A_t_cut, .ref A_t_counts, .ref A_t_strength, .ref A_t_reason, .ref A_t_driver, .ref A_t_waits, .ref A_t_stands])), (A_t_board, .inr (0, [.ref A_t_board_numbers, .ref A_t_board_owners, .ref A_t_board_cells])), (A_t_board_numbers, .inl (cI, 10, .inl V_t_board_numbers)), (A_t_board_cells, .inl (cI, 63, .inl V_t_board_cells)), (A_t_reason, .inl (cI, 9, .inl V_t_reason)), (A_t_strength, .inl (cI, 9, .inl V_t_strength))] sz) := by
  refine bodyWv (cc := cX2_failAgainstArmies) (maxL := 5) (lv := [(0, .ref A_t)]) (by decide) rfl (Nat.le_of_ble_eq_true rfl) rfl ?_
  intro p e s m args below meth c Q hx hb hml hown hts A hP hK hD hA hS fin ls hl
  replace hown : s.vm.findClass RX2 = some m.cls := hown
  have S : CallFix p m c cX2_failAgainstArmies 5 s args wsX2_failAgainstArmies RX2 := ⟨hx, hb, hml, hown, hts⟩
  unfold g_X2_failAgainstArmies at hg
  refine lv_iconst (v := 1) hx hb dX2_failAgainstArmies_0 (by decide) ?_
  refine lv_istore_n (lv' := [(1, .int 1), (0, .ref A_t)]) hx hb dX2_failAgainstArmies_1 rfl hl (by decide) rfl (fun ls hl => ?_)
  refine lv_iconst (v := 0) hx hb dX2_failAgainstArmies_2 (by decide) ?_
  refine lv_istore_n (lv' := [(2, .int 0), (1, .int 1), (0, .ref A_t)]) hx hb dX2_failAgainstArmies_3 rfl hl (by decide) rfl (fun ls hl => ?_)
  obtain ⟨f14, hL, hg⟩ := bind_ex hg
  have kx : ∀ (H : Heap) (locs : List Loc), va_P D vwCl [(A_t, .inr (2, [.ref A_t_board, .ref A_t_cut, .ref A_t_counts, .ref A_t_strength, .ref A_t_reason, .ref A_t_driver, .ref A_t_waits, .ref A_t_stands])), (A_t_board, .inr (0, [.ref A_t_board_numbers, .ref A_t_board_owners, .ref A_t_board_cells])), (A_t_board_numbers, .inl (cI, 10, .inl V_t_board_numbers)), (A_t_board_cells, .inl (cI, 63, .inl V_t_board_cells)), (A_t_reason, .inl (cI, 9, .inl f14)), (A_t_strength, .inl (cI, 9, .inl V_t_strength))] H → va_D A [(A_t, .inr (2, [.ref A_t_board, .ref A_t_cut, .ref A_t_counts, .ref A_t_strength, .ref A_t_reason, .ref A_t_driver, .ref A_t_waits, .ref A_t_stands])), (A_t_board, .inr (0, [.ref A_t_board_numbers, .ref A_t_board_owners, .ref A_t_board_cells])), (A_t_board_numbers, .inl (cI, 10, .inl V_t_board_numbers)), (A_t_board_cells, .inl (cI, 63, .inl V_t_board_cells)), (A_t_reason, .inl (cI, 9, .inl f14)), (A_t_strength, .inl (cI, 9, .inl V_t_strength))] → va_S A s.heap H locs → ∀ ls : Array Slot, lv_has ls 5 [] → W p l e rX2_failAgainstArmies s m args below meth c H locs 0 0 Q (F0 m 78 ls []) := by
    intro H locs hP hD hS ls hl
    cases hg
    exact fin _ _ _ _ dX2_failAgainstArmies_78 hP hD hS
  have L : ∀ (nf : Nat) (v1 : Int32) (v2 : Int32) (f3 : Nat → Int32), bo v1 → ∀ (H : Heap) (locs : List Loc), va_P D vwCl [(A_t, .inr (2, [.ref A_t_board, .ref A_t_cut, .ref A_t_counts, .ref A_t_strength, .ref A_t_reason, .ref A_t_driver, .ref A_t_waits, .ref A_t_stands])), (A_t_board, .inr (0, [.ref A_t_board_numbers, .ref A_t_board_owners, .ref A_t_board_cells])), (A_t_board_numbers, .inl (cI, 10, .inl V_t_board_numbers)), (A_t_board_cells, .inl (cI, 63, .inl V_t_board_cells)), (A_t_reason, .inl (cI, 9, .inl f3)), (A_t_strength, .inl (cI, 9, .inl V_t_strength))] H → va_D A [(A_t, .inr (2, [.ref A_t_board, .ref A_t_cut, .ref A_t_counts, .ref A_t_strength, .ref A_t_reason, .ref A_t_driver, .ref A_t_waits, .ref A_t_stands])), (A_t_board, .inr (0, [.ref A_t_board_numbers, .ref A_t_board_owners, .ref A_t_board_cells])), (A_t_board_numbers, .inl (cI, 10, .inl V_t_board_numbers)), (A_t_board_cells, .inl (cI, 63, .inl V_t_board_cells)), (A_t_reason, .inl (cI, 9, .inl f3)), (A_t_strength, .inl (cI, 9, .inl V_t_strength))] → va_S A s.heap H locs → ∀ ls : Array Slot, lv_has ls 5 [(2, .int v2), (1, .int v1), (0, .ref A_t)] → g_X2_failAgainstArmies_L1 V_t_board_numbers V_t_board_cells V_t_strength nf v1 v2 f3 = some f14 → W p l e rX2_failAgainstArmies s m args below meth c H locs 0 0 Q (F0 m 4 ls []) := by
    intro nf
    induction nf with
    | zero =>
      intro v1 v2 f3 hz_v1 H locs hP hD hS ls hl hg
      exact no_some hg
    | succ nf ih =>
      intro v1 v2 f3 hz_v1 H locs hP hD hS ls hl hg
      rw [g_X2_failAgainstArmies_L1] at hg
      refine lv_iload_n hx hb dX2_failAgainstArmies_4 rfl (lv_at hl 0 rfl) ?_
      refine lv_bipush (v := 9) hx hb dX2_failAgainstArmies_5 (by decide) ?_
      refine lv_icmp_gt (tgt := 78) hx hb dX2_failAgainstArmies_7 (by decide) (fun hc => ?_) (fun hc => ?_)
      · replace hg := if_yes hg hc
        cases hg
        exact kx _ _ hP hD hS _ (lv_sub hl [] rfl)
      · replace hg := if_no hg hc
        refine lv_iload_n hx hb dX2_failAgainstArmies_10 rfl (lv_at hl 1 rfl) ?_
        refine lv_if_eq (tgt := 78) hx hb dX2_failAgainstArmies_11 (by decide) (fun hc => ?_) (fun hc => ?_)
        · replace hg := if_yes hg hc
          cases hg
          exact kx _ _ hP hD hS _ (lv_sub hl [] rfl)
        · replace hg := if_no hg hc
          refine lv_iconst (v := 0) hx hb dX2_failAgainstArmies_14 (by decide) ?_
          refine lv_istore_n (lv' := [(1, .int 0), (2, .int v2), (0, .ref A_t)]) hx hb dX2_failAgainstArmies_15 rfl hl (by decide) rfl (fun ls hl => ?_)
          refine lv_iconst (v := 0) hx hb dX2_failAgainstArmies_16 (by decide) ?_
          refine lv_istore_n (lv' := [(3, .int 0), (1, .int 0), (2, .int v2), (0, .ref A_t)]) hx hb dX2_failAgainstArmies_17 rfl hl (by decide) rfl (fun ls hl => ?_)
          obtain ⟨v12, f13, hL, hg⟩ := b2_ex hg
          have kx : bo v12 → ∀ (H : Heap) (locs : List Loc), va_P D vwCl [(A_t, .inr (2, [.ref A_t_board, .ref A_t_cut, .ref A_t_counts, .ref A_t_strength, .ref A_t_reason, .ref A_t_driver, .ref A_t_waits, .ref A_t_stands])), (A_t_board, .inr (0, [.ref A_t_board_numbers, .ref A_t_board_owners, .ref A_t_board_cells])), (A_t_board_numbers, .inl (cI, 10, .inl V_t_board_numbers)), (A_t_board_cells, .inl (cI, 63, .inl V_t_board_cells)), (A_t_reason, .inl (cI, 9, .inl f13)), (A_t_strength, .inl (cI, 9, .inl V_t_strength))] H → va_D A [(A_t, .inr (2, [.ref A_t_board, .ref A_t_cut, .ref A_t_counts, .ref A_t_strength, .ref A_t_reason, .ref A_t_driver, .ref A_t_waits, .ref A_t_stands])), (A_t_board, .inr (0, [.ref A_t_board_numbers, .ref A_t_board_owners, .ref A_t_board_cells])), (A_t_board_numbers, .inl (cI, 10, .inl V_t_board_numbers)), (A_t_board_cells, .inl (cI, 63, .inl V_t_board_cells)), (A_t_reason, .inl (cI, 9, .inl f13)), (A_t_strength, .inl (cI, 9, .inl V_t_strength))] → va_S A s.heap H locs → ∀ ls : Array Slot, lv_has ls 5 [(1, .int v12), (2, .int v2), (0, .ref A_t)] → W p l e rX2_failAgainstArmies s m args below meth c H locs 0 0 Q (F0 m 72 ls []) := by
            intro hz_v12 H locs hP hD hS ls hl
            refine lv_iinc (v := (v2 + 1)) (lv' := [(2, .int (v2 + 1)), (1, .int v12), (0, .ref A_t)]) hx hb dX2_failAgainstArmies_72 hl (k := 1) rfl rfl (by decide) rfl (fun ls hl => ?_)
            refine lv_goto (tgt := 4) hx hb dX2_failAgainstArmies_75 (by decide) ?_
            exact ih _ _ _ hz_v12 _ _ hP hD hS _ (lv_sub hl [0, 1, 2] rfl) hg
          have L : ∀ (nf : Nat) (v4 : Int32) (v5 : Int32) (f6 : Nat → Int32), bo v4 → ∀ (H : Heap) (locs : List Loc), va_P D vwCl [(A_t, .inr (2, [.ref A_t_board, .ref A_t_cut, .ref A_t_counts, .ref A_t_strength, .ref A_t_reason, .ref A_t_driver, .ref A_t_waits, .ref A_t_stands])), (A_t_board, .inr (0, [.ref A_t_board_numbers, .ref A_t_board_owners, .ref A_t_board_cells])), (A_t_board_numbers, .inl (cI, 10, .inl V_t_board_numbers)), (A_t_board_cells, .inl (cI, 63, .inl V_t_board_cells)), (A_t_reason, .inl (cI, 9, .inl f6)), (A_t_strength, .inl (cI, 9, .inl V_t_strength))] H → va_D A [(A_t, .inr (2, [.ref A_t_board, .ref A_t_cut, .ref A_t_counts, .ref A_t_strength, .ref A_t_reason, .ref A_t_driver, .ref A_t_waits, .ref A_t_stands])), (A_t_board, .inr (0, [.ref A_t_board_numbers, .ref A_t_board_owners, .ref A_t_board_cells])), (A_t_board_numbers, .inl (cI, 10, .inl V_t_board_numbers)), (A_t_board_cells, .inl (cI, 63, .inl V_t_board_cells)), (A_t_reason, .inl (cI, 9, .inl f6)), (A_t_strength, .inl (cI, 9, .inl V_t_strength))] → va_S A s.heap H locs → ∀ ls : Array Slot, lv_has ls 5 [(3, .int v5), (1, .int v4), (2, .int v2), (0, .ref A_t)] → g_X2_failAgainstArmies_L2 V_t_board_numbers V_t_board_cells V_t_strength nf v4 v5 f6 = some (v12, f13) → W p l e rX2_failAgainstArmies s m args below meth c H locs 0 0 Q (F0 m 18 ls []) := by
            intro nf
            induction nf with
            | zero =>
              intro v4 v5 f6 hz_v4 H locs hP hD hS ls hl hg
              exact no_some hg
            | succ nf ih =>
              intro v4 v5 f6 hz_v4 H locs hP hD hS ls hl hg
              rw [g_X2_failAgainstArmies_L2] at hg
              refine lv_iload_n hx hb dX2_failAgainstArmies_18 rfl (lv_at hl 0 rfl) ?_
              refine lv_aload_n hx hb dX2_failAgainstArmies_19 rfl (lv_at hl 3 rfl) ?_
              refine xget (ci := 2) (C := RX2) (T := TX2) (N := 8) (v := .ref A_t_board) hx hb hts in_X2_failAgainstArmies_X2 hown hK hP 0 rfl rfl 0 (by decide) wd_X2_failAgainstArmies_1 rfl dX2_failAgainstArmies_20 ?_
              refine lv_iconst (v := 0) hx hb dX2_failAgainstArmies_23 (by decide) ?_
              obtain ⟨v7, hq, hg⟩ := bind_ex hg
              refine callRVi (As := [.int 0]) (rest := [.int v5]) S hK hP (c_X0_number l D cI cZ cB cJ A_t_board A_t_board_numbers A_t_board_owners A_t_board_cells V_t_board_numbers 0 v7 hq) [1, 2] rfl (cwV 1 hts gX2_failAgainstArmies_X0_number rfl rfl rfl hd_X0_number ⟨Nat.le_of_ble_eq_true rfl, Nat.le_of_ble_eq_true rfl⟩) rfl rfl rfl hl.1 rfl (Nat.le_of_ble_eq_true rfl) dX2_failAgainstArmies_24 ⟨Nat.zero_le _, Nat.zero_le _⟩ ?_
              refine lv_icmp_ge (tgt := 72) hx hb dX2_failAgainstArmies_27 (by decide) (fun hc => ?_) (fun hc => ?_)
              · replace hg := if_yes hg hc
                cases hg
                exact kx hz_v4 _ _ hP hD hS _ (lv_sub hl [1, 2, 3] rfl)
              · replace hg := if_no hg hc
                refine lv_aload_n hx hb dX2_failAgainstArmies_30 rfl (lv_at hl 3 rfl) ?_
                refine lv_iload_n hx hb dX2_failAgainstArmies_31 rfl (lv_at hl 0 rfl) ?_
                obtain ⟨v8, hq, hg⟩ := bind_ex hg
                refine callRVz (As := [.int v5]) (rest := []) S hK hP (c_X2_goes l D cI cZ cB cJ A_t A_t_board A_t_cut A_t_counts A_t_strength A_t_reason A_t_driver A_t_waits A_t_stands A_t_board_numbers A_t_board_owners A_t_board_cells V_t_board_cells f6 v5 v8 hq) [0, 1, 3, 4] rfl (cwV 1 hts gX2_failAgainstArmies_X2_goes rfl rfl rfl hd_X2_goes ⟨Nat.le_of_ble_eq_true rfl, Nat.le_of_ble_eq_true rfl⟩) rfl rfl rfl hl.1 rfl (Nat.le_of_ble_eq_true rfl) dX2_failAgainstArmies_32 ⟨Nat.zero_le _, Nat.zero_le _⟩ (fun hz_v8 => ?_)
                have hJ1 : ∀ (v10 : Int32), ∀ (H : Heap) (locs : List Loc), va_P D vwCl [(A_t, .inr (2, [.ref A_t_board, .ref A_t_cut, .ref A_t_counts, .ref A_t_strength, .ref A_t_reason, .ref A_t_driver, .ref A_t_waits, .ref A_t_stands])), (A_t_board, .inr (0, [.ref A_t_board_numbers, .ref A_t_board_owners, .ref A_t_board_cells])), (A_t_board_numbers, .inl (cI, 10, .inl V_t_board_numbers)), (A_t_board_cells, .inl (cI, 63, .inl V_t_board_cells)), (A_t_reason, .inl (cI, 9, .inl f6)), (A_t_strength, .inl (cI, 9, .inl V_t_strength))] H → va_D A [(A_t, .inr (2, [.ref A_t_board, .ref A_t_cut, .ref A_t_counts, .ref A_t_strength, .ref A_t_reason, .ref A_t_driver, .ref A_t_waits, .ref A_t_stands])), (A_t_board, .inr (0, [.ref A_t_board_numbers, .ref A_t_board_owners, .ref A_t_board_cells])), (A_t_board_numbers, .inl (cI, 10, .inl V_t_board_numbers)), (A_t_board_cells, .inl (cI, 63, .inl V_t_board_cells)), (A_t_reason, .inl (cI, 9, .inl f6)), (A_t_strength, .inl (cI, 9, .inl V_t_strength))] → va_S A s.heap H locs → ∀ ls : Array Slot, lv_has ls 5 [(3, .int v5), (1, .int v4), (2, .int v2), (0, .ref A_t)] → g_X2_failAgainstArmies_J1 v4 v5 f6 (g_X2_failAgainstArmies_L2 V_t_board_numbers V_t_board_cells V_t_strength nf) v10 = some (v12, f13) → W p l e rX2_failAgainstArmies s m args below meth c H locs 0 0 Q (F0 m 47 ls [.int v10]) := by
                  intro v10 H locs hP hD hS ls hl hg
                  unfold g_X2_failAgainstArmies_J1 at hg
                  refine lv_istore (lv' := [(4, .int v10), (3, .int v5), (1, .int v4), (2, .int v2), (0, .ref A_t)]) hx hb dX2_failAgainstArmies_47 hl (by decide) rfl (fun ls hl => ?_)
                  refine lv_iload hx hb dX2_failAgainstArmies_49 (lv_at hl 0 rfl) ?_
                  refine lv_if_eq (tgt := 66) hx hb dX2_failAgainstArmies_51 (by decide) (fun hc => ?_) (fun hc => ?_)
                  · replace hg := if_yes hg hc
                    refine lv_iinc (v := (v5 + 1)) (lv' := [(3, .int (v5 + 1)), (4, .int v10), (1, .int v4), (2, .int v2), (0, .ref A_t)]) hx hb dX2_failAgainstArmies_66 hl (k := 1) rfl rfl (by decide) rfl (fun ls hl => ?_)
                    refine lv_goto (tgt := 18) hx hb dX2_failAgainstArmies_69 (by decide) ?_
                    exact ih _ _ _ hz_v4 _ _ hP hD hS _ (lv_sub hl [0, 2, 3, 4] rfl) hg
                  · replace hg := if_no hg hc
                    refine lv_aload_n hx hb dX2_failAgainstArmies_54 rfl (lv_at hl 4 rfl) ?_
                    refine xget (ci := 2) (C := RX2) (T := TX2) (N := 8) (v := .ref A_t_reason) hx hb hts in_X2_failAgainstArmies_X2 hown hK hP 0 rfl rfl 4 (by decide) wd_X2_failAgainstArmies_2 rfl dX2_failAgainstArmies_55 ?_
                    refine lv_iload_n hx hb dX2_failAgainstArmies_58 rfl (lv_at hl 1 rfl) ?_
                    refine lv_iload hx hb dX2_failAgainstArmies_59 (lv_at hl 0 rfl) ?_
                    obtain ⟨f11, hq, hg⟩ := bind_ex hg
                    refine callWNv (As := [.ref A_t_reason, .int v5, .int v10]) (rest := []) (wr := [(A_t, .inr (2, [.ref A_t_board, .ref A_t_cut, .ref A_t_counts, .ref A_t_strength, .ref A_t_reason, .ref A_t_driver, .ref A_t_waits, .ref A_t_stands])), (A_t_board, .inr (0, [.ref A_t_board_numbers, .ref A_t_board_owners, .ref A_t_board_cells])), (A_t_board_numbers, .inl (cI, 10, .inl V_t_board_numbers)), (A_t_board_cells, .inl (cI, 63, .inl V_t_board_cells)), (A_t_strength, .inl (cI, 9, .inl V_t_strength))]) S hK hP hD hS hA (c_X4_enter l D cI cZ cB cJ A_t_reason 9 _ f6 v5 v10 f11 hq) [4] [0, 1, 2, 3, 5] rfl rfl (by decide +kernel) (by decide +kernel) (by decide +kernel) ⟨va_cnB 3 hts gX2_failAgainstArmies_X4_enter_n76 rfl rfl rfl (hK.2 _ (List.mem_of_getElem? (i := 5) rfl)) (hts _ wd_X2_failAgainstArmies_20) hd_X4_enter ⟨Nat.le_of_ble_eq_true rfl, Nat.le_of_ble_eq_true rfl⟩, hts _ wd_X2_failAgainstArmies_37, trivial⟩ rfl hl.1 rfl (Nat.le_of_ble_eq_true rfl) dX2_failAgainstArmies_61 ⟨Nat.zero_le _, Nat.zero_le _⟩ (fun H locs hP hD hS => ?_)
                    replace hP : va_P D vwCl [(A_t, .inr (2, [.ref A_t_board, .ref A_t_cut, .ref A_t_counts, .ref A_t_strength, .ref A_t_reason, .ref A_t_driver, .ref A_t_waits, .ref A_t_stands])), (A_t_board, .inr (0, [.ref A_t_board_numbers, .ref A_t_board_owners, .ref A_t_board_cells])), (A_t_board_numbers, .inl (cI, 10, .inl V_t_board_numbers)), (A_t_board_cells, .inl (cI, 63, .inl V_t_board_cells)), (A_t_strength, .inl (cI, 9, .inl V_t_strength)), (A_t_reason, .inl (cI, 9, .inl f11))] H := hP
                    replace hD : va_D A [(A_t, .inr (2, [.ref A_t_board, .ref A_t_cut, .ref A_t_counts, .ref A_t_strength, .ref A_t_reason, .ref A_t_driver, .ref A_t_waits, .ref A_t_stands])), (A_t_board, .inr (0, [.ref A_t_board_numbers, .ref A_t_board_owners, .ref A_t_board_cells])), (A_t_board_numbers, .inl (cI, 10, .inl V_t_board_numbers)), (A_t_board_cells, .inl (cI, 63, .inl V_t_board_cells)), (A_t_strength, .inl (cI, 9, .inl V_t_strength)), (A_t_reason, .inl (cI, 9, .inl f11))] := hD
                    refine lv_iconst (v := 1) hx hb dX2_failAgainstArmies_64 (by decide) ?_
                    refine lv_istore_n (lv' := [(1, .int 1), (4, .int v10), (3, .int v5), (2, .int v2), (0, .ref A_t)]) hx hb dX2_failAgainstArmies_65 rfl hl (by decide) rfl (fun ls hl => ?_)
                    refine lv_iinc (v := (v5 + 1)) (lv' := [(3, .int (v5 + 1)), (1, .int 1), (4, .int v10), (2, .int v2), (0, .ref A_t)]) hx hb dX2_failAgainstArmies_66 hl (k := 2) rfl rfl (by decide) rfl (fun ls hl => ?_)
                    refine lv_goto (tgt := 18) hx hb dX2_failAgainstArmies_69 (by decide) ?_
                    exact ih _ _ _ bo_1 _ _ (hP.sub [0, 1, 2, 3, 5, 4] rfl) (hD.sub [0, 1, 2, 3, 5, 4] (by decide) rfl) hS _ (lv_sub hl [0, 1, 3, 4] rfl) hg
                refine lv_if_eq (tgt := 46) hx hb dX2_failAgainstArmies_35 (by decide) (fun hc => ?_) (fun hc => ?_)
                · replace hg := if_yes hg hc
                  refine lv_iconst (v := 0) hx hb dX2_failAgainstArmies_46 (by decide) ?_
                  exact hJ1 _ _ _ hP hD hS _ (lv_sub hl [0, 1, 2, 3] rfl) hg
                · replace hg := if_no hg hc
                  refine lv_aload_n hx hb dX2_failAgainstArmies_38 rfl (lv_at hl 3 rfl) ?_
                  refine lv_iload_n hx hb dX2_failAgainstArmies_39 rfl (lv_at hl 0 rfl) ?_
                  obtain ⟨v9, hq, hg⟩ := bind_ex hg
                  refine callRVi (As := [.int v5]) (rest := []) S hK hP (c_X2_blockOf l D cI cZ cB cJ A_t A_t_board A_t_cut A_t_counts A_t_strength A_t_reason A_t_driver A_t_waits A_t_stands A_t_board_numbers A_t_board_owners A_t_board_cells V_t_board_cells V_t_board_numbers f6 V_t_strength v5 v9 hq) [0, 1, 3, 2, 4, 5] rfl (cwV 1 hts gX2_failAgainstArmies_X2_blockOf rfl rfl rfl hd_X2_blockOf ⟨Nat.le_of_ble_eq_true rfl, Nat.le_of_ble_eq_true rfl⟩) rfl rfl rfl hl.1 rfl (Nat.le_of_ble_eq_true rfl) dX2_failAgainstArmies_40 ⟨Nat.zero_le _, Nat.zero_le _⟩ ?_
                  refine lv_goto (tgt := 47) hx hb dX2_failAgainstArmies_43 (by decide) ?_
                  exact hJ1 _ _ _ hP hD hS _ (lv_sub hl [0, 1, 2, 3] rfl) hg
          exact L FU _ _ _ bo_0 _ _ hP hD hS _ (lv_sub hl [0, 1, 2, 3] rfl) hL
  exact L FU _ _ _ bo_1 _ _ hP hD hS _ (lv_sub hl [0, 1, 2] rfl) hL
theorem hd_X2_decideMoves : yX2_decideMoves.cls = RX2 ∧ yX2_decideMoves.cls ≠ "java/lang/invoke/MethodHandle" ∧ yX2_decideMoves.cls ≠ "java/lang/invoke/VarHandle" ∧ (parseMethodDescriptor yX2_decideMoves.desc).map (fun d => d.parameters.length) = some 0 := by decide +kernel
abbrev rX2_decideMoves : Room := { frames := 4, cells := 0, slots := 0, locals := 92 }
set_option maxHeartbeats 4000000 in
set_option maxRecDepth 100000 in
theorem c_X2_decideMoves (l : Launch) (D : va_G) (cI cZ cB cJ : ClassId) (A_t : Nat) (A_t_board : Nat) (A_t_cut : Nat) (A_t_counts : Nat) (A_t_strength : Nat) (A_t_reason : Nat) (A_t_driver : Nat) (A_t_waits : Nat) (A_t_stands : Nat) (A_t_board_numbers : Nat) (A_t_board_owners : Nat) (A_t_board_cells : Nat) (sz : Nat) (V_t_board_numbers : Nat → Int32) (V_t_board_cells : Nat → Int32) (V_t_cut : Nat → Int32) (V_t_counts : Nat → Int32) (V_t_strength : Nat → Int32) (V_t_reason : Nat → Int32) (w1 : Nat → Int32) (w2 : Nat → Int32) (w3 : Nat → Int32) (w4 : Nat → Int32) (hg : g_X2_decideMoves V_t_board_numbers V_t_board_cells V_t_cut V_t_counts V_t_strength V_t_reason = some (w1, w2, w3, w4)) : Met l yX2_decideMoves wsX2_decideMoves rX2_decideMoves (PcW D cI cZ cB cJ sz [(A_t, .inr (2, [.ref A_t_board, .ref A_t_cut, .ref A_t_counts, .ref A_t_strength, .ref A_t_reason, .ref A_t_driver, .ref A_t_waits, .ref A_t_stands])), (A_t_board, .inr (0, [.ref A_t_board_numbers, .ref A_t_board_owners, .ref A_t_board_cells])), (A_t_board_numbers, .inl (cI, 10, .inl V_t_board_numbers)), (A_t_board_cells, .inl (cI, 63, .inl V_t_board_cells)), (A_t_cut, .inl (cI, 9, .inl V_t_cut)), (A_t_counts, .inl (cI, 9, .inl V_t_counts)), (A_t_strength, .inl (cI, 9, .inl V_t_strength)), (A_t_reason, .inl (cI, 9, .inl V_t_reason))] [.ref A_t]) (QWv D cI cZ cB cJ sz [(A_t, .inr (2, [.ref A_t_board, .ref A_t_cut, .ref A_t_counts, .ref A_t_strength, .ref A_t_reason, .ref A_t_driver, .ref A_t_waits, .ref A_t_stands])), (A_t_board, .inr (0, [.ref A_t_board_numbers, .ref A_t_board_owners, .ref A_t_board_cells])), (A_t_board_numbers, .inl (cI, 10, .inl V_t_board_numbers)), (A_t_board_cells, .inl (cI, 63, .inl V_t_board_cells)), (A_t_cut, .inl (cI, 9, .inl V_t_cut)), (A_t_counts, .inl (cI, 9, .inl V_t_counts)), (A_t_strength, .inl (cI, 9, .inl V_t_strength)), (A_t_reason, .inl (cI, 9, .inl V_t_reason))] [(A_t, .inr (2, [.ref A_t_board, .ref A_t_cut, .ref A_t_counts, .ref A_t_strength, .ref A_t_reason, .ref A_t_driver, .ref A_t_waits, .ref A_t_stands])), (A_t_board, .inr (0, [.ref A_t_board_numbers, .ref A_t_board_owners, .ref A_t_board_cells])), (A_t_board_numbers, .inl (cI, 10, .inl V_t_board_numbers)), (A_t_board_cells, .inl (cI, 63, .inl V_t_board_cells)), (A_t_cut, .inl (cI, 9, .inl w1)), (A_t_counts, .inl (cI, 9, .inl w2)), (A_t_strength, .inl (cI, 9, .inl w3)), (A_t_reason, .inl (cI, 9, .inl w4))]) 0 0 (va_A [(A_t, .inr (2, [.ref A_t_board, .ref A_t_cut, .ref A_t_counts, .ref A_t_strength, .ref A_t_reason, .ref A_t_driver, .ref A_t_waits, .ref A_t_stands])), (A_t_board, .inr (0, [.ref A_t_board_numbers, .ref A_t_board_owners, .ref A_t_board_cells])), (A_t_board_numbers, .inl (cI, 10, .inl V_t_board_numbers)), (A_t_board_cells, .inl (cI, 63, .inl V_t_board_cells)), (A_t_cut, .inl (cI, 9, .inl V_t_cut)), (A_t_counts, .inl (cI, 9, .inl V_t_counts)), (A_t_strength, .inl (cI, 9, .inl V_t_strength)), (A_t_reason, .inl (cI, 9, .inl V_t_reason))] sz) := by
  refine bodyWv (cc := cX2_decideMoves) (maxL := 1) (lv := [(0, .ref A_t)]) (by decide) rfl (Nat.le_of_ble_eq_true rfl) rfl ?_
  intro p e s m args below meth c Q hx hb hml hown hts A hP hK hD hA hS fin ls hl
  replace hown : s.vm.findClass RX2 = some m.cls := hown
  have S : CallFix p m c cX2_decideMoves 1 s args wsX2_decideMoves RX2 := ⟨hx, hb, hml, hown, hts⟩
  unfold g_X2_decideMoves at hg
  refine lv_aload_n hx hb dX2_decideMoves_0 rfl (lv_at hl 0 rfl) ?_
  obtain ⟨f1, f2, hq, hg⟩ := b2_ex hg
  refine callWVv (As := []) (rest := []) (wr := [(A_t_strength, .inl (cI, 9, .inl V_t_strength)), (A_t_reason, .inl (cI, 9, .inl V_t_reason))]) S hK hP hD hS hA (c_X2_judgeSupports l D cI cZ cB cJ A_t A_t_board A_t_cut A_t_counts A_t_strength A_t_reason A_t_driver A_t_waits A_t_stands A_t_board_numbers A_t_board_owners A_t_board_cells _ V_t_board_numbers V_t_board_cells V_t_cut V_t_counts f1 f2 hq) [0, 1, 2, 3, 4, 5] [6, 7] rfl rfl (by decide +kernel) (by decide +kernel) (by decide +kernel) (cwV 0 hts gX2_decideMoves_X2_judgeSupports rfl rfl rfl hd_X2_judgeSupports ⟨Nat.le_of_ble_eq_true rfl, Nat.le_of_ble_eq_true rfl⟩) rfl rfl rfl hl.1 rfl (Nat.le_of_ble_eq_true rfl) dX2_decideMoves_1 ⟨Nat.zero_le _, Nat.zero_le _⟩ (fun H locs hP hD hS => ?_)
  replace hP : va_P D vwCl [(A_t_strength, .inl (cI, 9, .inl V_t_strength)), (A_t_reason, .inl (cI, 9, .inl V_t_reason)), (A_t, .inr (2, [.ref A_t_board, .ref A_t_cut, .ref A_t_counts, .ref A_t_strength, .ref A_t_reason, .ref A_t_driver, .ref A_t_waits, .ref A_t_stands])), (A_t_board, .inr (0, [.ref A_t_board_numbers, .ref A_t_board_owners, .ref A_t_board_cells])), (A_t_board_numbers, .inl (cI, 10, .inl V_t_board_numbers)), (A_t_board_cells, .inl (cI, 63, .inl V_t_board_cells)), (A_t_cut, .inl (cI, 9, .inl f1)), (A_t_counts, .inl (cI, 9, .inl f2))] H := hP
  replace hD : va_D A [(A_t_strength, .inl (cI, 9, .inl V_t_strength)), (A_t_reason, .inl (cI, 9, .inl V_t_reason)), (A_t, .inr (2, [.ref A_t_board, .ref A_t_cut, .ref A_t_counts, .ref A_t_strength, .ref A_t_reason, .ref A_t_driver, .ref A_t_waits, .ref A_t_stands])), (A_t_board, .inr (0, [.ref A_t_board_numbers, .ref A_t_board_owners, .ref A_t_board_cells])), (A_t_board_numbers, .inl (cI, 10, .inl V_t_board_numbers)), (A_t_board_cells, .inl (cI, 63, .inl V_t_board_cells)), (A_t_cut, .inl (cI, 9, .inl f1)), (A_t_counts, .inl (cI, 9, .inl f2))] := hD
  refine lv_aload_n hx hb dX2_decideMoves_4 rfl (lv_at hl 0 rfl) ?_
  obtain ⟨f3, hq, hg⟩ := bind_ex hg
  refine callWVv (As := []) (rest := []) (wr := [(A_t_reason, .inl (cI, 9, .inl V_t_reason)), (A_t_cut, .inl (cI, 9, .inl f1))]) S hK hP hD hS hA (c_X2_weighOrders l D cI cZ cB cJ A_t A_t_board A_t_cut A_t_counts A_t_strength A_t_reason A_t_driver A_t_waits A_t_stands A_t_board_numbers A_t_board_owners A_t_board_cells _ V_t_board_numbers V_t_board_cells f2 V_t_strength f3 hq) [2, 3, 4, 5, 7, 0] [1, 6] rfl rfl (by decide +kernel) (by decide +kernel) (by decide +kernel) (cwV 0 hts gX2_decideMoves_X2_weighOrders rfl rfl rfl hd_X2_weighOrders ⟨Nat.le_of_ble_eq_true rfl, Nat.le_of_ble_eq_true rfl⟩) rfl rfl rfl hl.1 rfl (Nat.le_of_ble_eq_true rfl) dX2_decideMoves_5 ⟨Nat.zero_le _, Nat.zero_le _⟩ (fun H locs hP hD hS => ?_)
  replace hP : va_P D vwCl [(A_t_reason, .inl (cI, 9, .inl V_t_reason)), (A_t_cut, .inl (cI, 9, .inl f1)), (A_t, .inr (2, [.ref A_t_board, .ref A_t_cut, .ref A_t_counts, .ref A_t_strength, .ref A_t_reason, .ref A_t_driver, .ref A_t_waits, .ref A_t_stands])), (A_t_board, .inr (0, [.ref A_t_board_numbers, .ref A_t_board_owners, .ref A_t_board_cells])), (A_t_board_numbers, .inl (cI, 10, .inl V_t_board_numbers)), (A_t_board_cells, .inl (cI, 63, .inl V_t_board_cells)), (A_t_counts, .inl (cI, 9, .inl f2)), (A_t_strength, .inl (cI, 9, .inl f3))] H := hP
  replace hD : va_D A [(A_t_reason, .inl (cI, 9, .inl V_t_reason)), (A_t_cut, .inl (cI, 9, .inl f1)), (A_t, .inr (2, [.ref A_t_board, .ref A_t_cut, .ref A_t_counts, .ref A_t_strength, .ref A_t_reason, .ref A_t_driver, .ref A_t_waits, .ref A_t_stands])), (A_t_board, .inr (0, [.ref A_t_board_numbers, .ref A_t_board_owners, .ref A_t_board_cells])), (A_t_board_numbers, .inl (cI, 10, .inl V_t_board_numbers)), (A_t_board_cells, .inl (cI, 63, .inl V_t_board_cells)), (A_t_counts, .inl (cI, 9, .inl f2)), (A_t_strength, .inl (cI, 9, .inl f3))] := hD
  refine lv_aload_n hx hb dX2_decideMoves_8 rfl (lv_at hl 0 rfl) ?_
  obtain ⟨f4, hq, hg⟩ := bind_ex hg
  refine callWVv (As := []) (rest := []) (wr := [(A_t_cut, .inl (cI, 9, .inl f1)), (A_t_counts, .inl (cI, 9, .inl f2))]) S hK hP hD hS hA (c_X2_failAgainstMoves l D cI cZ cB cJ A_t A_t_board A_t_cut A_t_counts A_t_strength A_t_reason A_t_driver A_t_waits A_t_stands A_t_board_numbers A_t_board_owners A_t_board_cells _ V_t_board_numbers V_t_board_cells f3 V_t_reason f4 hq) [2, 3, 4, 5, 7, 0] [1, 6] rfl rfl (by decide +kernel) (by decide +kernel) (by decide +kernel) (cwV 0 hts gX2_decideMoves_X2_failAgainstMoves rfl rfl rfl hd_X2_failAgainstMoves ⟨Nat.le_of_ble_eq_true rfl, Nat.le_of_ble_eq_true rfl⟩) rfl rfl rfl hl.1 rfl (Nat.le_of_ble_eq_true rfl) dX2_decideMoves_9 ⟨Nat.zero_le _, Nat.zero_le _⟩ (fun H locs hP hD hS => ?_)
  replace hP : va_P D vwCl [(A_t_cut, .inl (cI, 9, .inl f1)), (A_t_counts, .inl (cI, 9, .inl f2)), (A_t, .inr (2, [.ref A_t_board, .ref A_t_cut, .ref A_t_counts, .ref A_t_strength, .ref A_t_reason, .ref A_t_driver, .ref A_t_waits, .ref A_t_stands])), (A_t_board, .inr (0, [.ref A_t_board_numbers, .ref A_t_board_owners, .ref A_t_board_cells])), (A_t_board_numbers, .inl (cI, 10, .inl V_t_board_numbers)), (A_t_board_cells, .inl (cI, 63, .inl V_t_board_cells)), (A_t_strength, .inl (cI, 9, .inl f3)), (A_t_reason, .inl (cI, 9, .inl f4))] H := hP
  replace hD : va_D A [(A_t_cut, .inl (cI, 9, .inl f1)), (A_t_counts, .inl (cI, 9, .inl f2)), (A_t, .inr (2, [.ref A_t_board, .ref A_t_cut, .ref A_t_counts, .ref A_t_strength, .ref A_t_reason, .ref A_t_driver, .ref A_t_waits, .ref A_t_stands])), (A_t_board, .inr (0, [.ref A_t_board_numbers, .ref A_t_board_owners, .ref A_t_board_cells])), (A_t_board_numbers, .inl (cI, 10, .inl V_t_board_numbers)), (A_t_board_cells, .inl (cI, 63, .inl V_t_board_cells)), (A_t_strength, .inl (cI, 9, .inl f3)), (A_t_reason, .inl (cI, 9, .inl f4))] := hD
  refine lv_aload_n hx hb dX2_decideMoves_12 rfl (lv_at hl 0 rfl) ?_
  obtain ⟨f5, hq, hg⟩ := bind_ex hg
  refine callWVv (As := []) (rest := []) (wr := [(A_t_cut, .inl (cI, 9, .inl f1)), (A_t_counts, .inl (cI, 9, .inl f2))]) S hK hP hD hS hA (c_X2_failAgainstArmies l D cI cZ cB cJ A_t A_t_board A_t_cut A_t_counts A_t_strength A_t_reason A_t_driver A_t_waits A_t_stands A_t_board_numbers A_t_board_owners A_t_board_cells _ V_t_board_numbers V_t_board_cells f4 f3 f5 hq) [2, 3, 4, 5, 7, 6] [0, 1] rfl rfl (by decide +kernel) (by decide +kernel) (by decide +kernel) (cwV 0 hts gX2_decideMoves_X2_failAgainstArmies rfl rfl rfl hd_X2_failAgainstArmies ⟨Nat.le_of_ble_eq_true rfl, Nat.le_of_ble_eq_true rfl⟩) rfl rfl rfl hl.1 rfl (Nat.le_of_ble_eq_true rfl) dX2_decideMoves_13 ⟨Nat.zero_le _, Nat.zero_le _⟩ (fun H locs hP hD hS => ?_)
  replace hP : va_P D vwCl [(A_t_cut, .inl (cI, 9, .inl f1)), (A_t_counts, .inl (cI, 9, .inl f2)), (A_t, .inr (2, [.ref A_t_board, .ref A_t_cut, .ref A_t_counts, .ref A_t_strength, .ref A_t_reason, .ref A_t_driver, .ref A_t_waits, .ref A_t_stands])), (A_t_board, .inr (0, [.ref A_t_board_numbers, .ref A_t_board_owners, .ref A_t_board_cells])), (A_t_board_numbers, .inl (cI, 10, .inl V_t_board_numbers)), (A_t_board_cells, .inl (cI, 63, .inl V_t_board_cells)), (A_t_reason, .inl (cI, 9, .inl f5)), (A_t_strength, .inl (cI, 9, .inl f3))] H := hP
  replace hD : va_D A [(A_t_cut, .inl (cI, 9, .inl f1)), (A_t_counts, .inl (cI, 9, .inl f2)), (A_t, .inr (2, [.ref A_t_board, .ref A_t_cut, .ref A_t_counts, .ref A_t_strength, .ref A_t_reason, .ref A_t_driver, .ref A_t_waits, .ref A_t_stands])), (A_t_board, .inr (0, [.ref A_t_board_numbers, .ref A_t_board_owners, .ref A_t_board_cells])), (A_t_board_numbers, .inl (cI, 10, .inl V_t_board_numbers)), (A_t_board_cells, .inl (cI, 63, .inl V_t_board_cells)), (A_t_reason, .inl (cI, 9, .inl f5)), (A_t_strength, .inl (cI, 9, .inl f3))] := hD
  cases hg
  exact fin _ _ _ _ dX2_decideMoves_16 (hP.sub [2, 3, 4, 5, 0, 1, 7, 6] rfl) (hD.sub [2, 3, 4, 5, 0, 1, 7, 6] (by decide) rfl) hS
theorem hd_X2_comerTo : yX2_comerTo.cls = RX2 ∧ yX2_comerTo.cls ≠ "java/lang/invoke/MethodHandle" ∧ yX2_comerTo.cls ≠ "java/lang/invoke/VarHandle" ∧ (parseMethodDescriptor yX2_comerTo.desc).map (fun d => d.parameters.length) = some 1 := by decide +kernel
theorem in_X2_comerTo_X2 : ∀ w ∈ u_ws RX2 TX2 8, w ∈ wsX2_comerTo := fun _ h => List.mem_cons_of_mem _ (List.mem_append_left _ (List.mem_append_right _ h))
theorem wd_X2_comerTo_1 : Cond.fieldLink RX2 12 "FogOrders$Opening" "board" "LFogOrders$Board;" ∈ wsX2_comerTo := List.mem_of_getElem? (i := 1) rfl
abbrev rX2_comerTo : Room := { frames := 2, cells := 0, slots := 0, locals := 44 }
set_option maxHeartbeats 4000000 in
set_option maxRecDepth 100000 in
theorem c_X2_comerTo (l : Launch) (D : va_G) (cI cZ cB cJ : ClassId) (A_t : Nat) (A_t_board : Nat) (A_t_cut : Nat) (A_t_counts : Nat) (A_t_strength : Nat) (A_t_reason : Nat) (A_t_driver : Nat) (A_t_waits : Nat) (A_t_stands : Nat) (A_t_board_numbers : Nat) (A_t_board_owners : Nat) (A_t_board_cells : Nat) (V_t_board_numbers : Nat → Int32) (V_t_board_cells : Nat → Int32) (V_t_reason : Nat → Int32) (x1 : Int32) (r0 : Int32) (hg : g_X2_comerTo V_t_board_numbers V_t_board_cells V_t_reason x1 = some r0) : Met l yX2_comerTo wsX2_comerTo rX2_comerTo (PcR D cI cZ cB cJ [(A_t, .inr (2, [.ref A_t_board, .ref A_t_cut, .ref A_t_counts, .ref A_t_strength, .ref A_t_reason, .ref A_t_driver, .ref A_t_waits, .ref A_t_stands])), (A_t_board, .inr (0, [.ref A_t_board_numbers, .ref A_t_board_owners, .ref A_t_board_cells])), (A_t_board_numbers, .inl (cI, 10, .inl V_t_board_numbers)), (A_t_board_cells, .inl (cI, 63, .inl V_t_board_cells)), (A_t_reason, .inl (cI, 9, .inl V_t_reason))] [.ref A_t, .int x1]) (vp_Si (fun r' => r' = r0 ∧ True)) 0 0 (fun _ => False) := by
  refine bodyRi (cc := cX2_comerTo) (maxL := 3) (lv := [(0, .ref A_t), (1, .int x1)]) (by decide) rfl (Nat.le_of_ble_eq_true rfl) rfl ?_
  intro p e s m args below meth c Q hx hb hml hown hts hP hK fin ls hl
  replace hown : s.vm.findClass RX2 = some m.cls := hown
  have S : CallFix p m c cX2_comerTo 3 s args wsX2_comerTo RX2 := ⟨hx, hb, hml, hown, hts⟩
  unfold g_X2_comerTo at hg
  refine lv_iconst (v := 0) hx hb dX2_comerTo_0 (by decide) ?_
  refine lv_istore_n (lv' := [(2, .int 0), (0, .ref A_t), (1, .int x1)]) hx hb dX2_comerTo_1 rfl hl (by decide) rfl (fun ls hl => ?_)
  have L : ∀ (nf : Nat) (v1 : Int32), ∀ ls : Array Slot, lv_has ls 3 [(2, .int v1), (0, .ref A_t), (1, .int x1)] → g_X2_comerTo_L1 V_t_board_numbers V_t_board_cells V_t_reason x1 nf v1 = some r0 → W p l e rX2_comerTo s m args below meth c s.heap [] 0 0 Q (F0 m 2 ls []) := by
    intro nf
    induction nf with
    | zero =>
      intro v1 ls hl hg
      exact no_some hg
    | succ nf ih =>
      intro v1 ls hl hg
      rw [g_X2_comerTo_L1] at hg
      refine lv_iload_n hx hb dX2_comerTo_2 rfl (lv_at hl 0 rfl) ?_
      refine lv_aload_n hx hb dX2_comerTo_3 rfl (lv_at hl 1 rfl) ?_
      refine xget (ci := 2) (C := RX2) (T := TX2) (N := 8) (v := .ref A_t_board) hx hb hts in_X2_comerTo_X2 hown hK hP 0 rfl rfl 0 (by decide) wd_X2_comerTo_1 rfl dX2_comerTo_4 ?_
      refine lv_iconst (v := 0) hx hb dX2_comerTo_7 (by decide) ?_
      obtain ⟨v2, hq, hg⟩ := bind_ex hg
      refine callRVi (As := [.int 0]) (rest := [.int v1]) S hK hP (c_X0_number l D cI cZ cB cJ A_t_board A_t_board_numbers A_t_board_owners A_t_board_cells V_t_board_numbers 0 v2 hq) [1, 2] rfl (cwV 1 hts gX2_comerTo_X0_number rfl rfl rfl hd_X0_number ⟨Nat.le_of_ble_eq_true rfl, Nat.le_of_ble_eq_true rfl⟩) rfl rfl rfl hl.1 rfl (Nat.le_of_ble_eq_true rfl) dX2_comerTo_8 ⟨Nat.zero_le _, Nat.zero_le _⟩ ?_
      refine lv_icmp_ge (tgt := 43) hx hb dX2_comerTo_11 (by decide) (fun hc => ?_) (fun hc => ?_)
      · replace hg := if_yes hg hc
        refine lv_iconst (v := (-1)) hx hb dX2_comerTo_43 (by decide) ?_
        cases hg
        exact fin _ _ dX2_comerTo_44
      · replace hg := if_no hg hc
        refine lv_aload_n hx hb dX2_comerTo_14 rfl (lv_at hl 1 rfl) ?_
        refine lv_iload_n hx hb dX2_comerTo_15 rfl (lv_at hl 0 rfl) ?_
        obtain ⟨v3, hq, hg⟩ := bind_ex hg
        refine callRVz (As := [.int v1]) (rest := []) S hK hP (c_X2_goes l D cI cZ cB cJ A_t A_t_board A_t_cut A_t_counts A_t_strength A_t_reason A_t_driver A_t_waits A_t_stands A_t_board_numbers A_t_board_owners A_t_board_cells V_t_board_cells V_t_reason v1 v3 hq) [0, 1, 3, 4] rfl (cwV 1 hts gX2_comerTo_X2_goes rfl rfl rfl hd_X2_goes ⟨Nat.le_of_ble_eq_true rfl, Nat.le_of_ble_eq_true rfl⟩) rfl rfl rfl hl.1 rfl (Nat.le_of_ble_eq_true rfl) dX2_comerTo_16 ⟨Nat.zero_le _, Nat.zero_le _⟩ (fun hz_v3 => ?_)
        refine lv_if_eq (tgt := 37) hx hb dX2_comerTo_19 (by decide) (fun hc => ?_) (fun hc => ?_)
        · replace hg := if_yes hg hc
          refine lv_iinc (v := (v1 + 1)) (lv' := [(2, .int (v1 + 1)), (0, .ref A_t), (1, .int x1)]) hx hb dX2_comerTo_37 hl (k := 0) rfl rfl (by decide) rfl (fun ls hl => ?_)
          refine lv_goto (tgt := 2) hx hb dX2_comerTo_40 (by decide) ?_
          exact ih _ _ (lv_sub hl [0, 1, 2] rfl) hg
        · replace hg := if_no hg hc
          refine lv_aload_n hx hb dX2_comerTo_22 rfl (lv_at hl 1 rfl) ?_
          refine xget (ci := 2) (C := RX2) (T := TX2) (N := 8) (v := .ref A_t_board) hx hb hts in_X2_comerTo_X2 hown hK hP 0 rfl rfl 0 (by decide) wd_X2_comerTo_1 rfl dX2_comerTo_23 ?_
          refine lv_iload_n hx hb dX2_comerTo_26 rfl (lv_at hl 0 rfl) ?_
          refine lv_iconst (v := 3) hx hb dX2_comerTo_27 (by decide) ?_
          obtain ⟨v4, hq, hg⟩ := bind_ex hg
          refine callRVi (As := [.int v1, .int 3]) (rest := []) S hK hP (c_X0_of l D cI cZ cB cJ A_t_board A_t_board_numbers A_t_board_owners A_t_board_cells V_t_board_cells v1 3 v4 hq) [1, 3] rfl (cwV 2 hts gX2_comerTo_X0_of rfl rfl rfl hd_X0_of ⟨Nat.le_of_ble_eq_true rfl, Nat.le_of_ble_eq_true rfl⟩) rfl rfl rfl hl.1 rfl (Nat.le_of_ble_eq_true rfl) dX2_comerTo_28 ⟨Nat.zero_le _, Nat.zero_le _⟩ ?_
          refine lv_iload_n hx hb dX2_comerTo_31 rfl (lv_at hl 2 rfl) ?_
          refine lv_icmp_ne (tgt := 37) hx hb dX2_comerTo_32 (by decide) (fun hc => ?_) (fun hc => ?_)
          · replace hg := if_no hg hc
            refine lv_iinc (v := (v1 + 1)) (lv' := [(2, .int (v1 + 1)), (0, .ref A_t), (1, .int x1)]) hx hb dX2_comerTo_37 hl (k := 0) rfl rfl (by decide) rfl (fun ls hl => ?_)
            refine lv_goto (tgt := 2) hx hb dX2_comerTo_40 (by decide) ?_
            exact ih _ _ (lv_sub hl [0, 1, 2] rfl) hg
          · replace hg := if_yes hg hc
            refine lv_iload_n hx hb dX2_comerTo_35 rfl (lv_at hl 0 rfl) ?_
            cases hg
            exact fin _ _ dX2_comerTo_36
  exact L FU _ _ (lv_sub hl [0, 1, 2] rfl) hg
theorem hd_X2_comeToFields : yX2_comeToFields.cls = RX2 ∧ yX2_comeToFields.cls ≠ "java/lang/invoke/MethodHandle" ∧ yX2_comeToFields.cls ≠ "java/lang/invoke/VarHandle" ∧ (parseMethodDescriptor yX2_comeToFields.desc).map (fun d => d.parameters.length) = some 0 := by decide +kernel
theorem in_X2_comeToFields_X2 : ∀ w ∈ u_ws RX2 TX2 8, w ∈ wsX2_comeToFields := fun _ h => List.mem_cons_of_mem _ (List.mem_append_left _ (List.mem_append_right _ h))
theorem wd_X2_comeToFields_1 : Cond.fieldLink RX2 12 "FogOrders$Opening" "board" "LFogOrders$Board;" ∈ wsX2_comeToFields := List.mem_of_getElem? (i := 1) rfl
theorem wd_X2_comeToFields_2 : Cond.fieldLink RX2 31 "FogOrders$Opening" "driver" "[I" ∈ wsX2_comeToFields := List.mem_of_getElem? (i := 2) rfl
theorem wd_X2_comeToFields_23 : Cond.initialized RX4 ∈ wsX2_comeToFields := List.mem_of_getElem? (i := 23) rfl
theorem wd_X2_comeToFields_29 : Cond.static yX4_enter ∈ wsX2_comeToFields := List.mem_of_getElem? (i := 29) rfl
theorem wd_X2_comeToFields_3 : Cond.fieldLink RX2 34 "FogOrders$Opening" "waits" "[I" ∈ wsX2_comeToFields := List.mem_of_getElem? (i := 3) rfl
theorem wd_X2_comeToFields_4 : Cond.fieldLink RX2 37 "FogOrders$Opening" "stands" "[I" ∈ wsX2_comeToFields := List.mem_of_getElem? (i := 4) rfl
abbrev rX2_comeToFields : Room := { frames := 3, cells := 0, slots := 0, locals := 66 }
set_option maxHeartbeats 4000000 in
set_option maxRecDepth 100000 in
theorem c_X2_comeToFields (l : Launch) (D : va_G) (cI cZ cB cJ : ClassId) (A_t : Nat) (A_t_board : Nat) (A_t_cut : Nat) (A_t_counts : Nat) (A_t_strength : Nat) (A_t_reason : Nat) (A_t_driver : Nat) (A_t_waits : Nat) (A_t_stands : Nat) (A_t_board_numbers : Nat) (A_t_board_owners : Nat) (A_t_board_cells : Nat) (sz : Nat) (V_t_board_numbers : Nat → Int32) (V_t_board_cells : Nat → Int32) (V_t_reason : Nat → Int32) (V_t_driver : Nat → Int32) (V_t_waits : Nat → Int32) (V_t_stands : Nat → Int32) (w1 : Nat → Int32) (w2 : Nat → Int32) (w3 : Nat → Int32) (hg : g_X2_comeToFields V_t_board_numbers V_t_board_cells V_t_reason V_t_driver V_t_waits V_t_stands = some (w1, w2, w3)) : Met l yX2_comeToFields wsX2_comeToFields rX2_comeToFields (PcW D cI cZ cB cJ sz [(A_t, .inr (2, [.ref A_t_board, .ref A_t_cut, .ref A_t_counts, .ref A_t_strength, .ref A_t_reason, .ref A_t_driver, .ref A_t_waits, .ref A_t_stands])), (A_t_board, .inr (0, [.ref A_t_board_numbers, .ref A_t_board_owners, .ref A_t_board_cells])), (A_t_board_numbers, .inl (cI, 10, .inl V_t_board_numbers)), (A_t_board_cells, .inl (cI, 63, .inl V_t_board_cells)), (A_t_reason, .inl (cI, 9, .inl V_t_reason)), (A_t_driver, .inl (cI, 9, .inl V_t_driver)), (A_t_waits, .inl (cI, 9, .inl V_t_waits)), (A_t_stands, .inl (cI, 9, .inl V_t_stands))] [.ref A_t]) (QWv D cI cZ cB cJ sz [(A_t, .inr (2, [.ref A_t_board, .ref A_t_cut, .ref A_t_counts, .ref A_t_strength, .ref A_t_reason, .ref A_t_driver, .ref A_t_waits, .ref A_t_stands])), (A_t_board, .inr (0, [.ref A_t_board_numbers, .ref A_t_board_owners, .ref A_t_board_cells])), (A_t_board_numbers, .inl (cI, 10, .inl V_t_board_numbers)), (A_t_board_cells, .inl (cI, 63, .inl V_t_board_cells)), (A_t_reason, .inl (cI, 9, .inl V_t_reason)), (A_t_driver, .inl (cI, 9, .inl V_t_driver)), (A_t_waits, .inl (cI, 9, .inl V_t_waits)), (A_t_stands, .inl (cI, 9, .inl V_t_stands))] [(A_t, .inr (2, [.ref A_t_board, .ref A_t_cut, .ref A_t_counts, .ref A_t_strength, .ref A_t_reason, .ref A_t_driver, .ref A_t_waits, .ref A_t_stands])), (A_t_board, .inr (0, [.ref A_t_board_numbers, .ref A_t_board_owners, .ref A_t_board_cells])), (A_t_board_numbers, .inl (cI, 10, .inl V_t_board_numbers)), (A_t_board_cells, .inl (cI, 63, .inl V_t_board_cells)), (A_t_reason, .inl (cI, 9, .inl V_t_reason)), (A_t_driver, .inl (cI, 9, .inl w1)), (A_t_waits, .inl (cI, 9, .inl w2)), (A_t_stands, .inl (cI, 9, .inl w3))]) 0 0 (va_A [(A_t, .inr (2, [.ref A_t_board, .ref A_t_cut, .ref A_t_counts, .ref A_t_strength, .ref A_t_reason, .ref A_t_driver, .ref A_t_waits, .ref A_t_stands])), (A_t_board, .inr (0, [.ref A_t_board_numbers, .ref A_t_board_owners, .ref A_t_board_cells])), (A_t_board_numbers, .inl (cI, 10, .inl V_t_board_numbers)), (A_t_board_cells, .inl (cI, 63, .inl V_t_board_cells)), (A_t_reason, .inl (cI, 9, .inl V_t_reason)), (A_t_driver, .inl (cI, 9, .inl V_t_driver)), (A_t_waits, .inl (cI, 9, .inl V_t_waits)), (A_t_stands, .inl (cI, 9, .inl V_t_stands))] sz) := by
  refine bodyWv (cc := cX2_comeToFields) (maxL := 4) (lv := [(0, .ref A_t)]) (by decide) rfl (Nat.le_of_ble_eq_true rfl) rfl ?_
  intro p e s m args below meth c Q hx hb hml hown hts A hP hK hD hA hS fin ls hl
  replace hown : s.vm.findClass RX2 = some m.cls := hown
  have S : CallFix p m c cX2_comeToFields 4 s args wsX2_comeToFields RX2 := ⟨hx, hb, hml, hown, hts⟩
  unfold g_X2_comeToFields at hg
  refine lv_iconst (v := 0) hx hb dX2_comeToFields_0 (by decide) ?_
  refine lv_istore_n (lv' := [(1, .int 0), (0, .ref A_t)]) hx hb dX2_comeToFields_1 rfl hl (by decide) rfl (fun ls hl => ?_)
  obtain ⟨f19, f20, f21, hL, hg⟩ := b3_ex hg
  have kx : ∀ (H : Heap) (locs : List Loc), va_P D vwCl [(A_t, .inr (2, [.ref A_t_board, .ref A_t_cut, .ref A_t_counts, .ref A_t_strength, .ref A_t_reason, .ref A_t_driver, .ref A_t_waits, .ref A_t_stands])), (A_t_board, .inr (0, [.ref A_t_board_numbers, .ref A_t_board_owners, .ref A_t_board_cells])), (A_t_board_numbers, .inl (cI, 10, .inl V_t_board_numbers)), (A_t_board_cells, .inl (cI, 63, .inl V_t_board_cells)), (A_t_reason, .inl (cI, 9, .inl V_t_reason)), (A_t_driver, .inl (cI, 9, .inl f19)), (A_t_waits, .inl (cI, 9, .inl f21)), (A_t_stands, .inl (cI, 9, .inl f20))] H → va_D A [(A_t, .inr (2, [.ref A_t_board, .ref A_t_cut, .ref A_t_counts, .ref A_t_strength, .ref A_t_reason, .ref A_t_driver, .ref A_t_waits, .ref A_t_stands])), (A_t_board, .inr (0, [.ref A_t_board_numbers, .ref A_t_board_owners, .ref A_t_board_cells])), (A_t_board_numbers, .inl (cI, 10, .inl V_t_board_numbers)), (A_t_board_cells, .inl (cI, 63, .inl V_t_board_cells)), (A_t_reason, .inl (cI, 9, .inl V_t_reason)), (A_t_driver, .inl (cI, 9, .inl f19)), (A_t_waits, .inl (cI, 9, .inl f21)), (A_t_stands, .inl (cI, 9, .inl f20))] → va_S A s.heap H locs → ∀ ls : Array Slot, lv_has ls 4 [] → W p l e rX2_comeToFields s m args below meth c H locs 0 0 Q (F0 m 121 ls []) := by
    intro H locs hP hD hS ls hl
    cases hg
    exact fin _ _ _ _ dX2_comeToFields_121 hP hD hS
  have L : ∀ (nf : Nat) (v1 : Int32) (f2 : Nat → Int32) (f3 : Nat → Int32) (f4 : Nat → Int32), ∀ (H : Heap) (locs : List Loc), va_P D vwCl [(A_t, .inr (2, [.ref A_t_board, .ref A_t_cut, .ref A_t_counts, .ref A_t_strength, .ref A_t_reason, .ref A_t_driver, .ref A_t_waits, .ref A_t_stands])), (A_t_board, .inr (0, [.ref A_t_board_numbers, .ref A_t_board_owners, .ref A_t_board_cells])), (A_t_board_numbers, .inl (cI, 10, .inl V_t_board_numbers)), (A_t_board_cells, .inl (cI, 63, .inl V_t_board_cells)), (A_t_reason, .inl (cI, 9, .inl V_t_reason)), (A_t_driver, .inl (cI, 9, .inl f2)), (A_t_waits, .inl (cI, 9, .inl f4)), (A_t_stands, .inl (cI, 9, .inl f3))] H → va_D A [(A_t, .inr (2, [.ref A_t_board, .ref A_t_cut, .ref A_t_counts, .ref A_t_strength, .ref A_t_reason, .ref A_t_driver, .ref A_t_waits, .ref A_t_stands])), (A_t_board, .inr (0, [.ref A_t_board_numbers, .ref A_t_board_owners, .ref A_t_board_cells])), (A_t_board_numbers, .inl (cI, 10, .inl V_t_board_numbers)), (A_t_board_cells, .inl (cI, 63, .inl V_t_board_cells)), (A_t_reason, .inl (cI, 9, .inl V_t_reason)), (A_t_driver, .inl (cI, 9, .inl f2)), (A_t_waits, .inl (cI, 9, .inl f4)), (A_t_stands, .inl (cI, 9, .inl f3))] → va_S A s.heap H locs → ∀ ls : Array Slot, lv_has ls 4 [(1, .int v1), (0, .ref A_t)] → g_X2_comeToFields_L1 V_t_board_numbers V_t_board_cells V_t_reason nf v1 f2 f3 f4 = some (f19, f20, f21) → W p l e rX2_comeToFields s m args below meth c H locs 0 0 Q (F0 m 2 ls []) := by
    intro nf
    induction nf with
    | zero =>
      intro v1 f2 f3 f4 H locs hP hD hS ls hl hg
      exact no_some hg
    | succ nf ih =>
      intro v1 f2 f3 f4 H locs hP hD hS ls hl hg
      rw [g_X2_comeToFields_L1] at hg
      refine lv_iload_n hx hb dX2_comeToFields_2 rfl (lv_at hl 0 rfl) ?_
      refine lv_aload_n hx hb dX2_comeToFields_3 rfl (lv_at hl 1 rfl) ?_
      refine xget (ci := 2) (C := RX2) (T := TX2) (N := 8) (v := .ref A_t_board) hx hb hts in_X2_comeToFields_X2 hown hK hP 0 rfl rfl 0 (by decide) wd_X2_comeToFields_1 rfl dX2_comeToFields_4 ?_
      refine lv_iconst (v := 0) hx hb dX2_comeToFields_7 (by decide) ?_
      obtain ⟨v5, hq, hg⟩ := bind_ex hg
      refine callRVi (As := [.int 0]) (rest := [.int v1]) S hK hP (c_X0_number l D cI cZ cB cJ A_t_board A_t_board_numbers A_t_board_owners A_t_board_cells V_t_board_numbers 0 v5 hq) [1, 2] rfl (cwV 1 hts gX2_comeToFields_X0_number rfl rfl rfl hd_X0_number ⟨Nat.le_of_ble_eq_true rfl, Nat.le_of_ble_eq_true rfl⟩) rfl rfl rfl hl.1 rfl (Nat.le_of_ble_eq_true rfl) dX2_comeToFields_8 ⟨Nat.zero_le _, Nat.zero_le _⟩ ?_
      refine lv_icmp_ge (tgt := 121) hx hb dX2_comeToFields_11 (by decide) (fun hc => ?_) (fun hc => ?_)
      · replace hg := if_yes hg hc
        cases hg
        exact kx _ _ hP hD hS _ (lv_sub hl [] rfl)
      · replace hg := if_no hg hc
        refine lv_aload_n hx hb dX2_comeToFields_14 rfl (lv_at hl 1 rfl) ?_
        refine lv_iload_n hx hb dX2_comeToFields_15 rfl (lv_at hl 0 rfl) ?_
        obtain ⟨v6, hq, hg⟩ := bind_ex hg
        refine callRVz (As := [.int v1]) (rest := []) S hK hP (c_X2_goes l D cI cZ cB cJ A_t A_t_board A_t_cut A_t_counts A_t_strength A_t_reason A_t_driver A_t_waits A_t_stands A_t_board_numbers A_t_board_owners A_t_board_cells V_t_board_cells V_t_reason v1 v6 hq) [0, 1, 3, 4] rfl (cwV 1 hts gX2_comeToFields_X2_goes rfl rfl rfl hd_X2_goes ⟨Nat.le_of_ble_eq_true rfl, Nat.le_of_ble_eq_true rfl⟩) rfl rfl rfl hl.1 rfl (Nat.le_of_ble_eq_true rfl) dX2_comeToFields_16 ⟨Nat.zero_le _, Nat.zero_le _⟩ (fun hz_v6 => ?_)
        have hJ1 : ∀ (v9 : Int32), ∀ (H : Heap) (locs : List Loc), va_P D vwCl [(A_t, .inr (2, [.ref A_t_board, .ref A_t_cut, .ref A_t_counts, .ref A_t_strength, .ref A_t_reason, .ref A_t_driver, .ref A_t_waits, .ref A_t_stands])), (A_t_board, .inr (0, [.ref A_t_board_numbers, .ref A_t_board_owners, .ref A_t_board_cells])), (A_t_board_numbers, .inl (cI, 10, .inl V_t_board_numbers)), (A_t_board_cells, .inl (cI, 63, .inl V_t_board_cells)), (A_t_reason, .inl (cI, 9, .inl V_t_reason)), (A_t_driver, .inl (cI, 9, .inl f2)), (A_t_waits, .inl (cI, 9, .inl f4)), (A_t_stands, .inl (cI, 9, .inl f3))] H → va_D A [(A_t, .inr (2, [.ref A_t_board, .ref A_t_cut, .ref A_t_counts, .ref A_t_strength, .ref A_t_reason, .ref A_t_driver, .ref A_t_waits, .ref A_t_stands])), (A_t_board, .inr (0, [.ref A_t_board_numbers, .ref A_t_board_owners, .ref A_t_board_cells])), (A_t_board_numbers, .inl (cI, 10, .inl V_t_board_numbers)), (A_t_board_cells, .inl (cI, 63, .inl V_t_board_cells)), (A_t_reason, .inl (cI, 9, .inl V_t_reason)), (A_t_driver, .inl (cI, 9, .inl f2)), (A_t_waits, .inl (cI, 9, .inl f4)), (A_t_stands, .inl (cI, 9, .inl f3))] → va_S A s.heap H locs → ∀ ls : Array Slot, lv_has ls 4 [(1, .int v1), (0, .ref A_t)] → g_X2_comeToFields_J1 f2 v1 f4 V_t_board_cells V_t_reason f3 (g_X2_comeToFields_L1 V_t_board_numbers V_t_board_cells V_t_reason nf) v9 = some (f19, f20, f21) → W p l e rX2_comeToFields s m args below meth c H locs 0 0 Q (F0 m 39 ls [.int v9]) := by
          intro v9 H locs hP hD hS ls hl hg
          unfold g_X2_comeToFields_J1 at hg
          refine lv_istore_n (lv' := [(2, .int v9), (1, .int v1), (0, .ref A_t)]) hx hb dX2_comeToFields_39 rfl hl (by decide) rfl (fun ls hl => ?_)
          refine lv_aload_n hx hb dX2_comeToFields_40 rfl (lv_at hl 2 rfl) ?_
          refine xget (ci := 2) (C := RX2) (T := TX2) (N := 8) (v := .ref A_t_driver) hx hb hts in_X2_comeToFields_X2 hown hK hP 0 rfl rfl 5 (by decide) wd_X2_comeToFields_2 rfl dX2_comeToFields_41 ?_
          refine lv_iload_n hx hb dX2_comeToFields_44 rfl (lv_at hl 1 rfl) ?_
          refine lv_iload_n hx hb dX2_comeToFields_45 rfl (lv_at hl 0 rfl) ?_
          obtain ⟨f10, hq, hg⟩ := bind_ex hg
          refine callWNv (As := [.ref A_t_driver, .int v1, .int v9]) (rest := []) (wr := [(A_t, .inr (2, [.ref A_t_board, .ref A_t_cut, .ref A_t_counts, .ref A_t_strength, .ref A_t_reason, .ref A_t_driver, .ref A_t_waits, .ref A_t_stands])), (A_t_board, .inr (0, [.ref A_t_board_numbers, .ref A_t_board_owners, .ref A_t_board_cells])), (A_t_board_numbers, .inl (cI, 10, .inl V_t_board_numbers)), (A_t_board_cells, .inl (cI, 63, .inl V_t_board_cells)), (A_t_reason, .inl (cI, 9, .inl V_t_reason)), (A_t_waits, .inl (cI, 9, .inl f4)), (A_t_stands, .inl (cI, 9, .inl f3))]) S hK hP hD hS hA (c_X4_enter l D cI cZ cB cJ A_t_driver 9 _ f2 v1 v9 f10 hq) [5] [0, 1, 2, 3, 4, 6, 7] rfl rfl (by decide +kernel) (by decide +kernel) (by decide +kernel) ⟨va_cnB 3 hts gX2_comeToFields_X4_enter_n76 rfl rfl rfl (hK.2 _ (List.mem_of_getElem? (i := 5) rfl)) (hts _ wd_X2_comeToFields_23) hd_X4_enter ⟨Nat.le_of_ble_eq_true rfl, Nat.le_of_ble_eq_true rfl⟩, hts _ wd_X2_comeToFields_29, trivial⟩ rfl hl.1 rfl (Nat.le_of_ble_eq_true rfl) dX2_comeToFields_46 ⟨Nat.zero_le _, Nat.zero_le _⟩ (fun H locs hP hD hS => ?_)
          replace hP : va_P D vwCl [(A_t, .inr (2, [.ref A_t_board, .ref A_t_cut, .ref A_t_counts, .ref A_t_strength, .ref A_t_reason, .ref A_t_driver, .ref A_t_waits, .ref A_t_stands])), (A_t_board, .inr (0, [.ref A_t_board_numbers, .ref A_t_board_owners, .ref A_t_board_cells])), (A_t_board_numbers, .inl (cI, 10, .inl V_t_board_numbers)), (A_t_board_cells, .inl (cI, 63, .inl V_t_board_cells)), (A_t_reason, .inl (cI, 9, .inl V_t_reason)), (A_t_waits, .inl (cI, 9, .inl f4)), (A_t_stands, .inl (cI, 9, .inl f3)), (A_t_driver, .inl (cI, 9, .inl f10))] H := hP
          replace hD : va_D A [(A_t, .inr (2, [.ref A_t_board, .ref A_t_cut, .ref A_t_counts, .ref A_t_strength, .ref A_t_reason, .ref A_t_driver, .ref A_t_waits, .ref A_t_stands])), (A_t_board, .inr (0, [.ref A_t_board_numbers, .ref A_t_board_owners, .ref A_t_board_cells])), (A_t_board_numbers, .inl (cI, 10, .inl V_t_board_numbers)), (A_t_board_cells, .inl (cI, 63, .inl V_t_board_cells)), (A_t_reason, .inl (cI, 9, .inl V_t_reason)), (A_t_waits, .inl (cI, 9, .inl f4)), (A_t_stands, .inl (cI, 9, .inl f3)), (A_t_driver, .inl (cI, 9, .inl f10))] := hD
          refine lv_aload_n hx hb dX2_comeToFields_49 rfl (lv_at hl 2 rfl) ?_
          refine xget (ci := 2) (C := RX2) (T := TX2) (N := 8) (v := .ref A_t_waits) hx hb hts in_X2_comeToFields_X2 hown hK hP 0 rfl rfl 6 (by decide) wd_X2_comeToFields_3 rfl dX2_comeToFields_50 ?_
          refine lv_iload_n hx hb dX2_comeToFields_53 rfl (lv_at hl 1 rfl) ?_
          refine lv_iload_n hx hb dX2_comeToFields_54 rfl (lv_at hl 0 rfl) ?_
          refine lv_iconst (v := (-1)) hx hb dX2_comeToFields_55 (by decide) ?_
          have hJ2 : ∀ (v11 : Int32), bo v11 → ∀ (H : Heap) (locs : List Loc), va_P D vwCl [(A_t, .inr (2, [.ref A_t_board, .ref A_t_cut, .ref A_t_counts, .ref A_t_strength, .ref A_t_reason, .ref A_t_driver, .ref A_t_waits, .ref A_t_stands])), (A_t_board, .inr (0, [.ref A_t_board_numbers, .ref A_t_board_owners, .ref A_t_board_cells])), (A_t_board_numbers, .inl (cI, 10, .inl V_t_board_numbers)), (A_t_board_cells, .inl (cI, 63, .inl V_t_board_cells)), (A_t_reason, .inl (cI, 9, .inl V_t_reason)), (A_t_waits, .inl (cI, 9, .inl f4)), (A_t_stands, .inl (cI, 9, .inl f3)), (A_t_driver, .inl (cI, 9, .inl f10))] H → va_D A [(A_t, .inr (2, [.ref A_t_board, .ref A_t_cut, .ref A_t_counts, .ref A_t_strength, .ref A_t_reason, .ref A_t_driver, .ref A_t_waits, .ref A_t_stands])), (A_t_board, .inr (0, [.ref A_t_board_numbers, .ref A_t_board_owners, .ref A_t_board_cells])), (A_t_board_numbers, .inl (cI, 10, .inl V_t_board_numbers)), (A_t_board_cells, .inl (cI, 63, .inl V_t_board_cells)), (A_t_reason, .inl (cI, 9, .inl V_t_reason)), (A_t_waits, .inl (cI, 9, .inl f4)), (A_t_stands, .inl (cI, 9, .inl f3)), (A_t_driver, .inl (cI, 9, .inl f10))] → va_S A s.heap H locs → ∀ ls : Array Slot, lv_has ls 4 [(2, .int v9), (1, .int v1), (0, .ref A_t)] → g_X2_comeToFields_J2 f4 v1 V_t_board_cells V_t_reason v9 f3 f10 (g_X2_comeToFields_L1 V_t_board_numbers V_t_board_cells V_t_reason nf) v11 = some (f19, f20, f21) → W p l e rX2_comeToFields s m args below meth c H locs 0 0 Q (F0 m 64 ls [.int v11, .int v1, .ref A_t_waits]) := by
            intro v11 hz_v11 H locs hP hD hS ls hl hg
            unfold g_X2_comeToFields_J2 at hg
            obtain ⟨f12, hq, hg⟩ := bind_ex hg
            refine callWNv (As := [.ref A_t_waits, .int v1, .int v11]) (rest := []) (wr := [(A_t, .inr (2, [.ref A_t_board, .ref A_t_cut, .ref A_t_counts, .ref A_t_strength, .ref A_t_reason, .ref A_t_driver, .ref A_t_waits, .ref A_t_stands])), (A_t_board, .inr (0, [.ref A_t_board_numbers, .ref A_t_board_owners, .ref A_t_board_cells])), (A_t_board_numbers, .inl (cI, 10, .inl V_t_board_numbers)), (A_t_board_cells, .inl (cI, 63, .inl V_t_board_cells)), (A_t_reason, .inl (cI, 9, .inl V_t_reason)), (A_t_stands, .inl (cI, 9, .inl f3)), (A_t_driver, .inl (cI, 9, .inl f10))]) S hK hP hD hS hA (c_X4_enter l D cI cZ cB cJ A_t_waits 9 _ f4 v1 v11 f12 hq) [5] [0, 1, 2, 3, 4, 6, 7] rfl rfl (by decide +kernel) (by decide +kernel) (by decide +kernel) ⟨va_cnB 3 hts gX2_comeToFields_X4_enter_n76 rfl rfl rfl (hK.2 _ (List.mem_of_getElem? (i := 5) rfl)) (hts _ wd_X2_comeToFields_23) hd_X4_enter ⟨Nat.le_of_ble_eq_true rfl, Nat.le_of_ble_eq_true rfl⟩, hts _ wd_X2_comeToFields_29, trivial⟩ rfl hl.1 rfl (Nat.le_of_ble_eq_true rfl) dX2_comeToFields_64 ⟨Nat.zero_le _, Nat.zero_le _⟩ (fun H locs hP hD hS => ?_)
            replace hP : va_P D vwCl [(A_t, .inr (2, [.ref A_t_board, .ref A_t_cut, .ref A_t_counts, .ref A_t_strength, .ref A_t_reason, .ref A_t_driver, .ref A_t_waits, .ref A_t_stands])), (A_t_board, .inr (0, [.ref A_t_board_numbers, .ref A_t_board_owners, .ref A_t_board_cells])), (A_t_board_numbers, .inl (cI, 10, .inl V_t_board_numbers)), (A_t_board_cells, .inl (cI, 63, .inl V_t_board_cells)), (A_t_reason, .inl (cI, 9, .inl V_t_reason)), (A_t_stands, .inl (cI, 9, .inl f3)), (A_t_driver, .inl (cI, 9, .inl f10)), (A_t_waits, .inl (cI, 9, .inl f12))] H := hP
            replace hD : va_D A [(A_t, .inr (2, [.ref A_t_board, .ref A_t_cut, .ref A_t_counts, .ref A_t_strength, .ref A_t_reason, .ref A_t_driver, .ref A_t_waits, .ref A_t_stands])), (A_t_board, .inr (0, [.ref A_t_board_numbers, .ref A_t_board_owners, .ref A_t_board_cells])), (A_t_board_numbers, .inl (cI, 10, .inl V_t_board_numbers)), (A_t_board_cells, .inl (cI, 63, .inl V_t_board_cells)), (A_t_reason, .inl (cI, 9, .inl V_t_reason)), (A_t_stands, .inl (cI, 9, .inl f3)), (A_t_driver, .inl (cI, 9, .inl f10)), (A_t_waits, .inl (cI, 9, .inl f12))] := hD
            refine lv_aload_n hx hb dX2_comeToFields_67 rfl (lv_at hl 2 rfl) ?_
            refine lv_iload_n hx hb dX2_comeToFields_68 rfl (lv_at hl 1 rfl) ?_
            obtain ⟨v13, hq, hg⟩ := bind_ex hg
            refine callRVz (As := [.int v1]) (rest := []) S hK hP (c_X2_goes l D cI cZ cB cJ A_t A_t_board A_t_cut A_t_counts A_t_strength A_t_reason A_t_driver A_t_waits A_t_stands A_t_board_numbers A_t_board_owners A_t_board_cells V_t_board_cells V_t_reason v1 v13 hq) [0, 1, 3, 4] rfl (cwV 1 hts gX2_comeToFields_X2_goes rfl rfl rfl hd_X2_goes ⟨Nat.le_of_ble_eq_true rfl, Nat.le_of_ble_eq_true rfl⟩) rfl rfl rfl hl.1 rfl (Nat.le_of_ble_eq_true rfl) dX2_comeToFields_69 ⟨Nat.zero_le _, Nat.zero_le _⟩ (fun hz_v13 => ?_)
            have hJ3 : ∀ (v16 : Int32), ∀ (H : Heap) (locs : List Loc), va_P D vwCl [(A_t, .inr (2, [.ref A_t_board, .ref A_t_cut, .ref A_t_counts, .ref A_t_strength, .ref A_t_reason, .ref A_t_driver, .ref A_t_waits, .ref A_t_stands])), (A_t_board, .inr (0, [.ref A_t_board_numbers, .ref A_t_board_owners, .ref A_t_board_cells])), (A_t_board_numbers, .inl (cI, 10, .inl V_t_board_numbers)), (A_t_board_cells, .inl (cI, 63, .inl V_t_board_cells)), (A_t_reason, .inl (cI, 9, .inl V_t_reason)), (A_t_stands, .inl (cI, 9, .inl f3)), (A_t_driver, .inl (cI, 9, .inl f10)), (A_t_waits, .inl (cI, 9, .inl f12))] H → va_D A [(A_t, .inr (2, [.ref A_t_board, .ref A_t_cut, .ref A_t_counts, .ref A_t_strength, .ref A_t_reason, .ref A_t_driver, .ref A_t_waits, .ref A_t_stands])), (A_t_board, .inr (0, [.ref A_t_board_numbers, .ref A_t_board_owners, .ref A_t_board_cells])), (A_t_board_numbers, .inl (cI, 10, .inl V_t_board_numbers)), (A_t_board_cells, .inl (cI, 63, .inl V_t_board_cells)), (A_t_reason, .inl (cI, 9, .inl V_t_reason)), (A_t_stands, .inl (cI, 9, .inl f3)), (A_t_driver, .inl (cI, 9, .inl f10)), (A_t_waits, .inl (cI, 9, .inl f12))] → va_S A s.heap H locs → ∀ ls : Array Slot, lv_has ls 4 [(2, .int v9), (1, .int v1), (0, .ref A_t)] → g_X2_comeToFields_J3 v9 f3 v1 f10 f12 (g_X2_comeToFields_L1 V_t_board_numbers V_t_board_cells V_t_reason nf) v16 = some (f19, f20, f21) → W p l e rX2_comeToFields s m args below meth c H locs 0 0 Q (F0 m 96 ls [.int v16]) := by
              intro v16 H locs hP hD hS ls hl hg
              unfold g_X2_comeToFields_J3 at hg
              refine lv_istore_n (lv' := [(3, .int v16), (2, .int v9), (1, .int v1), (0, .ref A_t)]) hx hb dX2_comeToFields_96 rfl hl (by decide) rfl (fun ls hl => ?_)
              refine lv_aload_n hx hb dX2_comeToFields_97 rfl (lv_at hl 3 rfl) ?_
              refine xget (ci := 2) (C := RX2) (T := TX2) (N := 8) (v := .ref A_t_stands) hx hb hts in_X2_comeToFields_X2 hown hK hP 0 rfl rfl 7 (by decide) wd_X2_comeToFields_4 rfl dX2_comeToFields_98 ?_
              refine lv_iload_n hx hb dX2_comeToFields_101 rfl (lv_at hl 2 rfl) ?_
              refine lv_iload_n hx hb dX2_comeToFields_102 rfl (lv_at hl 1 rfl) ?_
              refine lv_iconst (v := (-1)) hx hb dX2_comeToFields_103 (by decide) ?_
              have hJ4 : ∀ (v17 : Int32), ∀ (H : Heap) (locs : List Loc), va_P D vwCl [(A_t, .inr (2, [.ref A_t_board, .ref A_t_cut, .ref A_t_counts, .ref A_t_strength, .ref A_t_reason, .ref A_t_driver, .ref A_t_waits, .ref A_t_stands])), (A_t_board, .inr (0, [.ref A_t_board_numbers, .ref A_t_board_owners, .ref A_t_board_cells])), (A_t_board_numbers, .inl (cI, 10, .inl V_t_board_numbers)), (A_t_board_cells, .inl (cI, 63, .inl V_t_board_cells)), (A_t_reason, .inl (cI, 9, .inl V_t_reason)), (A_t_stands, .inl (cI, 9, .inl f3)), (A_t_driver, .inl (cI, 9, .inl f10)), (A_t_waits, .inl (cI, 9, .inl f12))] H → va_D A [(A_t, .inr (2, [.ref A_t_board, .ref A_t_cut, .ref A_t_counts, .ref A_t_strength, .ref A_t_reason, .ref A_t_driver, .ref A_t_waits, .ref A_t_stands])), (A_t_board, .inr (0, [.ref A_t_board_numbers, .ref A_t_board_owners, .ref A_t_board_cells])), (A_t_board_numbers, .inl (cI, 10, .inl V_t_board_numbers)), (A_t_board_cells, .inl (cI, 63, .inl V_t_board_cells)), (A_t_reason, .inl (cI, 9, .inl V_t_reason)), (A_t_stands, .inl (cI, 9, .inl f3)), (A_t_driver, .inl (cI, 9, .inl f10)), (A_t_waits, .inl (cI, 9, .inl f12))] → va_S A s.heap H locs → ∀ ls : Array Slot, lv_has ls 4 [(1, .int v1), (0, .ref A_t)] → g_X2_comeToFields_J4 f3 v1 f10 f12 (g_X2_comeToFields_L1 V_t_board_numbers V_t_board_cells V_t_reason nf) v17 = some (f19, f20, f21) → W p l e rX2_comeToFields s m args below meth c H locs 0 0 Q (F0 m 112 ls [.int v17, .int v1, .ref A_t_stands]) := by
                intro v17 H locs hP hD hS ls hl hg
                unfold g_X2_comeToFields_J4 at hg
                obtain ⟨f18, hq, hg⟩ := bind_ex hg
                refine callWNv (As := [.ref A_t_stands, .int v1, .int v17]) (rest := []) (wr := [(A_t, .inr (2, [.ref A_t_board, .ref A_t_cut, .ref A_t_counts, .ref A_t_strength, .ref A_t_reason, .ref A_t_driver, .ref A_t_waits, .ref A_t_stands])), (A_t_board, .inr (0, [.ref A_t_board_numbers, .ref A_t_board_owners, .ref A_t_board_cells])), (A_t_board_numbers, .inl (cI, 10, .inl V_t_board_numbers)), (A_t_board_cells, .inl (cI, 63, .inl V_t_board_cells)), (A_t_reason, .inl (cI, 9, .inl V_t_reason)), (A_t_driver, .inl (cI, 9, .inl f10)), (A_t_waits, .inl (cI, 9, .inl f12))]) S hK hP hD hS hA (c_X4_enter l D cI cZ cB cJ A_t_stands 9 _ f3 v1 v17 f18 hq) [5] [0, 1, 2, 3, 4, 6, 7] rfl rfl (by decide +kernel) (by decide +kernel) (by decide +kernel) ⟨va_cnB 3 hts gX2_comeToFields_X4_enter_n76 rfl rfl rfl (hK.2 _ (List.mem_of_getElem? (i := 5) rfl)) (hts _ wd_X2_comeToFields_23) hd_X4_enter ⟨Nat.le_of_ble_eq_true rfl, Nat.le_of_ble_eq_true rfl⟩, hts _ wd_X2_comeToFields_29, trivial⟩ rfl hl.1 rfl (Nat.le_of_ble_eq_true rfl) dX2_comeToFields_112 ⟨Nat.zero_le _, Nat.zero_le _⟩ (fun H locs hP hD hS => ?_)
                replace hP : va_P D vwCl [(A_t, .inr (2, [.ref A_t_board, .ref A_t_cut, .ref A_t_counts, .ref A_t_strength, .ref A_t_reason, .ref A_t_driver, .ref A_t_waits, .ref A_t_stands])), (A_t_board, .inr (0, [.ref A_t_board_numbers, .ref A_t_board_owners, .ref A_t_board_cells])), (A_t_board_numbers, .inl (cI, 10, .inl V_t_board_numbers)), (A_t_board_cells, .inl (cI, 63, .inl V_t_board_cells)), (A_t_reason, .inl (cI, 9, .inl V_t_reason)), (A_t_driver, .inl (cI, 9, .inl f10)), (A_t_waits, .inl (cI, 9, .inl f12)), (A_t_stands, .inl (cI, 9, .inl f18))] H := hP
                replace hD : va_D A [(A_t, .inr (2, [.ref A_t_board, .ref A_t_cut, .ref A_t_counts, .ref A_t_strength, .ref A_t_reason, .ref A_t_driver, .ref A_t_waits, .ref A_t_stands])), (A_t_board, .inr (0, [.ref A_t_board_numbers, .ref A_t_board_owners, .ref A_t_board_cells])), (A_t_board_numbers, .inl (cI, 10, .inl V_t_board_numbers)), (A_t_board_cells, .inl (cI, 63, .inl V_t_board_cells)), (A_t_reason, .inl (cI, 9, .inl V_t_reason)), (A_t_driver, .inl (cI, 9, .inl f10)), (A_t_waits, .inl (cI, 9, .inl f12)), (A_t_stands, .inl (cI, 9, .inl f18))] := hD
                refine lv_iinc (v := (v1 + 1)) (lv' := [(1, .int (v1 + 1)), (0, .ref A_t)]) hx hb dX2_comeToFields_115 hl (k := 0) rfl rfl (by decide) rfl (fun ls hl => ?_)
                refine lv_goto (tgt := 2) hx hb dX2_comeToFields_118 (by decide) ?_
                exact ih _ _ _ _ _ _ hP hD hS _ (lv_sub hl [0, 1] rfl) hg
              refine lv_icmp_ne (tgt := 111) hx hb dX2_comeToFields_104 (by decide) (fun hc => ?_) (fun hc => ?_)
              · replace hg := if_no hg hc
                refine lv_iconst (v := (-1)) hx hb dX2_comeToFields_111 (by decide) ?_
                exact hJ4 _ _ _ hP hD hS _ (lv_sub hl [2, 3] rfl) hg
              · replace hg := if_yes hg hc
                refine lv_iload_n hx hb dX2_comeToFields_107 rfl (lv_at hl 0 rfl) ?_
                refine lv_goto (tgt := 112) hx hb dX2_comeToFields_108 (by decide) ?_
                exact hJ4 _ _ _ hP hD hS _ (lv_sub hl [2, 3] rfl) hg
            refine lv_if_eq (tgt := 87) hx hb dX2_comeToFields_72 (by decide) (fun hc => ?_) (fun hc => ?_)
            · replace hg := if_yes hg hc
              refine lv_aload_n hx hb dX2_comeToFields_87 rfl (lv_at hl 2 rfl) ?_
              refine xget (ci := 2) (C := RX2) (T := TX2) (N := 8) (v := .ref A_t_board) hx hb hts in_X2_comeToFields_X2 hown hK hP 0 rfl rfl 0 (by decide) wd_X2_comeToFields_1 rfl dX2_comeToFields_88 ?_
              refine lv_iload_n hx hb dX2_comeToFields_91 rfl (lv_at hl 1 rfl) ?_
              refine lv_iconst (v := 1) hx hb dX2_comeToFields_92 (by decide) ?_
              obtain ⟨v14, hq, hg⟩ := bind_ex hg
              refine callRVi (As := [.int v1, .int 1]) (rest := []) S hK hP (c_X0_of l D cI cZ cB cJ A_t_board A_t_board_numbers A_t_board_owners A_t_board_cells V_t_board_cells v1 1 v14 hq) [1, 3] rfl (cwV 2 hts gX2_comeToFields_X0_of rfl rfl rfl hd_X0_of ⟨Nat.le_of_ble_eq_true rfl, Nat.le_of_ble_eq_true rfl⟩) rfl rfl rfl hl.1 rfl (Nat.le_of_ble_eq_true rfl) dX2_comeToFields_93 ⟨Nat.zero_le _, Nat.zero_le _⟩ ?_
              exact hJ3 _ _ _ hP hD hS _ (lv_sub hl [0, 1, 2] rfl) hg
            · replace hg := if_no hg hc
              refine lv_aload_n hx hb dX2_comeToFields_75 rfl (lv_at hl 2 rfl) ?_
              refine xget (ci := 2) (C := RX2) (T := TX2) (N := 8) (v := .ref A_t_board) hx hb hts in_X2_comeToFields_X2 hown hK hP 0 rfl rfl 0 (by decide) wd_X2_comeToFields_1 rfl dX2_comeToFields_76 ?_
              refine lv_iload_n hx hb dX2_comeToFields_79 rfl (lv_at hl 1 rfl) ?_
              refine lv_iconst (v := 3) hx hb dX2_comeToFields_80 (by decide) ?_
              obtain ⟨v15, hq, hg⟩ := bind_ex hg
              refine callRVi (As := [.int v1, .int 3]) (rest := []) S hK hP (c_X0_of l D cI cZ cB cJ A_t_board A_t_board_numbers A_t_board_owners A_t_board_cells V_t_board_cells v1 3 v15 hq) [1, 3] rfl (cwV 2 hts gX2_comeToFields_X0_of rfl rfl rfl hd_X0_of ⟨Nat.le_of_ble_eq_true rfl, Nat.le_of_ble_eq_true rfl⟩) rfl rfl rfl hl.1 rfl (Nat.le_of_ble_eq_true rfl) dX2_comeToFields_81 ⟨Nat.zero_le _, Nat.zero_le _⟩ ?_
              refine lv_goto (tgt := 96) hx hb dX2_comeToFields_84 (by decide) ?_
              exact hJ3 _ _ _ hP hD hS _ (lv_sub hl [0, 1, 2] rfl) hg
          refine lv_icmp_ne (tgt := 63) hx hb dX2_comeToFields_56 (by decide) (fun hc => ?_) (fun hc => ?_)
          · replace hg := if_no hg hc
            refine lv_iconst (v := 1) hx hb dX2_comeToFields_63 (by decide) ?_
            exact hJ2 _ bo_1 _ _ hP hD hS _ (lv_sub hl [0, 1, 2] rfl) hg
          · replace hg := if_yes hg hc
            refine lv_iconst (v := 0) hx hb dX2_comeToFields_59 (by decide) ?_
            refine lv_goto (tgt := 64) hx hb dX2_comeToFields_60 (by decide) ?_
            exact hJ2 _ bo_0 _ _ hP hD hS _ (lv_sub hl [0, 1, 2] rfl) hg
        refine lv_if_eq (tgt := 26) hx hb dX2_comeToFields_19 (by decide) (fun hc => ?_) (fun hc => ?_)
        · replace hg := if_yes hg hc
          refine lv_aload_n hx hb dX2_comeToFields_26 rfl (lv_at hl 1 rfl) ?_
          refine lv_aload_n hx hb dX2_comeToFields_27 rfl (lv_at hl 1 rfl) ?_
          refine xget (ci := 2) (C := RX2) (T := TX2) (N := 8) (v := .ref A_t_board) hx hb hts in_X2_comeToFields_X2 hown hK hP 0 rfl rfl 0 (by decide) wd_X2_comeToFields_1 rfl dX2_comeToFields_28 ?_
          refine lv_iload_n hx hb dX2_comeToFields_31 rfl (lv_at hl 0 rfl) ?_
          refine lv_iconst (v := 1) hx hb dX2_comeToFields_32 (by decide) ?_
          obtain ⟨v7, hq, hg⟩ := bind_ex hg
          refine callRVi (As := [.int v1, .int 1]) (rest := [.ref A_t]) S hK hP (c_X0_of l D cI cZ cB cJ A_t_board A_t_board_numbers A_t_board_owners A_t_board_cells V_t_board_cells v1 1 v7 hq) [1, 3] rfl (cwV 2 hts gX2_comeToFields_X0_of rfl rfl rfl hd_X0_of ⟨Nat.le_of_ble_eq_true rfl, Nat.le_of_ble_eq_true rfl⟩) rfl rfl rfl hl.1 rfl (Nat.le_of_ble_eq_true rfl) dX2_comeToFields_33 ⟨Nat.zero_le _, Nat.zero_le _⟩ ?_
          obtain ⟨v8, hq, hg⟩ := bind_ex hg
          refine callRVi (As := [.int v7]) (rest := []) S hK hP (c_X2_comerTo l D cI cZ cB cJ A_t A_t_board A_t_cut A_t_counts A_t_strength A_t_reason A_t_driver A_t_waits A_t_stands A_t_board_numbers A_t_board_owners A_t_board_cells V_t_board_numbers V_t_board_cells V_t_reason v7 v8 hq) [0, 1, 2, 3, 4] rfl (cwV 1 hts gX2_comeToFields_X2_comerTo rfl rfl rfl hd_X2_comerTo ⟨Nat.le_of_ble_eq_true rfl, Nat.le_of_ble_eq_true rfl⟩) rfl rfl rfl hl.1 rfl (Nat.le_of_ble_eq_true rfl) dX2_comeToFields_36 ⟨Nat.zero_le _, Nat.zero_le _⟩ ?_
          exact hJ1 _ _ _ hP hD hS _ (lv_sub hl [0, 1] rfl) hg
        · replace hg := if_no hg hc
          refine lv_iconst (v := (-1)) hx hb dX2_comeToFields_22 (by decide) ?_
          refine lv_goto (tgt := 39) hx hb dX2_comeToFields_23 (by decide) ?_
          exact hJ1 _ _ _ hP hD hS _ (lv_sub hl [0, 1] rfl) hg
  exact L FU _ _ _ _ _ _ hP hD hS _ (lv_sub hl [0, 1] rfl) hL
