/-! p26: from the entry of the law to its end -/
theorem start_arr {ty : FieldType} {U : State} {av : Array Value} (hty : ∀ C, ty ≠ .object C) (h : (Cond.arrayClass ty).before av U = true) : ∃ cA : ClassId, ArrOfT U cA ty ∧ va_RA U cA ty := by
  obtain ⟨c, k, comp, h1, h2, h3⟩ := Cond.arrayClass_spec h
  refine ⟨c, fun N z => ⟨(fun k h => by cases h), k, h2, comp, h3⟩, ?_⟩
  cases ty with
  | object C => exact absurd rfl (hty C)
  | _ => exact h1
theorem start_aro {C : String} {U : State} {av : Array Value} (h : (Cond.arrayOver (.object C)).before av U = true) : ∃ cA : ClassId, ArrOfT U cA (.object C) ∧ va_RA U cA (.object C) := by
  obtain ⟨comp, c, k, h1, _, h2, h3, h4⟩ := Cond.arrayOver_spec h
  exact ⟨c, fun N z => ⟨(fun k h => by cases h), k, h2, comp, h3⟩, ⟨k, comp, h2, h3, h1, h4⟩⟩
theorem nwl_nest : ∀ w ∈ nwL, Cond.onTables w = true := by decide +kernel
theorem nwl_in : ∀ w ∈ nwL, w ∈ lw_tbl := by decide +kernel
theorem start_k0 {U : State} {av : Array Value} (hts : ∀ w ∈ lw_tbl, w.before av U = true) : ∃ (c : ClassId) (i : Nat → Nat), u_Kn U RX0 TX0 3 c i := u_known hts wsL_law_in0_wsX00 (hts _ m9_1_21)
theorem start_k1 {U : State} {av : Array Value} (hts : ∀ w ∈ lw_tbl, w.before av U = true) : ∃ (c : ClassId) (i : Nat → Nat), u_Kn U RX1 TX1 3 c i := u_known hts wsL_law_in0_wsX10 (hts _ m9_1_17)
theorem start_k2 {U : State} {av : Array Value} (hts : ∀ w ∈ lw_tbl, w.before av U = true) : ∃ (c : ClassId) (i : Nat → Nat), u_Kn U RX2 TX2 8 c i := u_known hts wsL_law_in0_wsX20 (hts _ m9_1_10)
theorem start_k3 {U : State} {av : Array Value} (hts : ∀ w ∈ lw_tbl, w.before av U = true) : ∃ (c : ClassId) (i : Nat → Nat), u_Kn U RX3 TX3 6 c i := u_known hts wsL_law_in0_wsX30 (hts _ m9_2_2)
theorem start_k4 {U : State} {av : Array Value} (hts : ∀ w ∈ lw_tbl, w.before av U = true) : ∃ (c : ClassId) (i : Nat → Nat), u_Kn U RX4 TX4 8 c i := u_known hts wsL_law_in0_wsX40 (hts _ m9_1_1)
theorem start_five {U : State} {c0 c1 c2 c3 c4 : ClassId} {i0 i1 i2 i3 i4 : Nat → Nat} (h0 : u_Kn U RX0 TX0 3 c0 i0) (h1 : u_Kn U RX1 TX1 3 c1 i1) (h2 : u_Kn U RX2 TX2 8 c2 i2) (h3 : u_Kn U RX3 TX3 6 c3 i3) (h4 : u_Kn U RX4 TX4 8 c4 i4) : ∃ D : va_G, ∀ (c : Nat) (q : vw_C), vwCl[c]? = some q → u_Kn U q.1 q.2.1 q.2.2 (D.1 c) (D.2 c) := by
  refine ⟨(fun c => [c0, c1, c2, c3, c4].getD c c0, fun c => [i0, i1, i2, i3, i4].getD c i0), fun c q hq => ?_⟩
  by_cases hc : c < 5
  · rcases (show c = 0 ∨ c = 1 ∨ c = 2 ∨ c = 3 ∨ c = 4 by omega) with rfl | rfl | rfl | rfl | rfl
    · cases hq; exact h0
    · cases hq; exact h1
    · cases hq; exact h2
    · cases hq; exact h3
    · cases hq; exact h4
  · have h : (5 : Nat) ≤ c := Nat.le_of_not_lt hc
    rw [List.getElem?_eq_none (show vwCl.length ≤ c from h)] at hq
    cases hq
theorem start_known {U : State} {av : Array Value} (hts : ∀ w ∈ lw_tbl, w.before av U = true) : ∃ D : va_G, ∀ (c : Nat) (q : vw_C), vwCl[c]? = some q → u_Kn U q.1 q.2.1 q.2.2 (D.1 c) (D.2 c) := by
  obtain ⟨c0, i0, h0⟩ := start_k0 hts
  obtain ⟨c1, i1, h1⟩ := start_k1 hts
  obtain ⟨c2, i2, h2⟩ := start_k2 hts
  obtain ⟨c3, i3, h3⟩ := start_k3 hts
  obtain ⟨c4, i4, h4⟩ := start_k4 hts
  exact start_five h0 h1 h2 h3 h4
theorem start_over : Cond.arrayOver (.object RX0) ∈ lw_tbl := by decide +kernel
theorem start_tys {z : State} {cI cZ cB cJ : ClassId} (hI : ArrOfT z cI .int ∧ va_RA z cI .int) (hB : ArrOfT z cB (.object RX0) ∧ va_RA z cB (.object RX0)) : ∀ (k : Nat) (q : ClassId × FieldType), (TY cI cZ cB cJ)[k]? = some q → ArrOfT z q.1 q.2 ∧ va_RA z q.1 q.2 := by
  intro k q hq
  by_cases hk : k < 4
  · rcases (show k = 0 ∨ k = 1 ∨ k = 2 ∨ k = 3 by omega) with rfl | rfl | rfl | rfl
    · cases hq; exact hI
    · cases hq; exact hI
    · cases hq; exact hB
    · cases hq; exact hI
  · have h : (4 : Nat) ≤ k := Nat.le_of_not_lt hk
    rw [List.getElem?_eq_none (show (TY cI cZ cB cJ).length ≤ k from h)] at hq
    cases hq
theorem start_kk {z : State} {av : Array Value} (hts : ∀ w ∈ lw_tbl, w.before av z = true) : ∃ (D : va_G) (cI cB : ClassId), KK D cI cI cB cI z ∧ va_AO RX0 z := by
  obtain ⟨D, hD⟩ := start_known hts
  obtain ⟨cI, hI⟩ := start_arr (ty := .int) (fun C h => by cases h) (hts _ m9_2_10)
  obtain ⟨cB, hB⟩ := start_aro (C := RX0) (hts _ start_over)
  exact ⟨D, cI, cB, ⟨⟨hD, start_tys hI hB⟩, fun w hw => va_Nw.of (nwl_nest w hw) (hts w (nwl_in w hw))⟩, va_AO.of (hts _ start_over)⟩
def st_W : Nat → Int32 := upd (upd (upd (upd (upd (upd (upd (upd (upd (upd (upd (upd (fun _ => 0) 0 (-1)) 1 (-1)) 2 (-1)) 3 (-1)) 4 (-1)) 5 (-1)) 6 (-1)) 7 (-1)) 8 (-1)) 9 (-1)) 10 (-1)) 11 (-1)
set_option maxRecDepth 100000 in
theorem start_fill : g_J7_fill_53178 12 (fun _ => 0) (-1) = some st_W := rfl
theorem start_w : ∀ f, f < 12 → st_W f = -1 := by decide +kernel
theorem start_jb {w : Nat → Int32} (hw : ∀ f, f < 12 → w f = -1) : JB 0 (fun _ => 0) w (fun _ => 0) := by
  refine ⟨0, upd (upd (upd (upd (fun _ => 0) 10 (-1)) 11 (-1)) 12 (-1)) 13 (-1), ⟨Nat.zero_le _, rfl, Or.inl rfl, ⟨0, 0, Nat.le_refl _, Nat.le_refl _, rfl, rfl⟩, ?_, fun a h => absurd h (Nat.not_lt_zero a), fun a b h => absurd h (Nat.not_lt_zero a)⟩, ⟨rfl, ?_, ?_, fun f h _ => hw f h, fun a w h => absurd h (Nat.not_lt_zero a)⟩, rfl⟩
  · intro k hk
    rcases (show k = 0 ∨ k = 1 ∨ k = 2 ∨ k = 3 by omega) with rfl | rfl | rfl | rfl <;> exact Or.inl rfl
  · intro k hk
    rcases (show k = 0 ∨ k = 1 ∨ k = 2 ∨ k = 3 ∨ k = 4 ∨ k = 5 ∨ k = 6 ∨ k = 7 ∨ k = 8 by omega) with rfl | rfl | rfl | rfl | rfl | rfl | rfl | rfl | rfl <;> rfl
  · intro k hk
    rcases (show k = 0 ∨ k = 1 ∨ k = 2 ∨ k = 3 by omega) with rfl | rfl | rfl | rfl
    · exact (hw 0 (by decide)).trans rfl
    · exact (hw 3 (by decide)).trans rfl
    · exact (hw 6 (by decide)).trans rfl
    · exact (hw 9 (by decide)).trans rfl
set_option maxHeartbeats 4000000 in
set_option maxRecDepth 100000 in
/-- THE LAW, from its entry -/
theorem whole_start {p : Program} {e : Env} {s : State} {m : MethodId} {below : List Frame} {meth : Method} {c : Code} (l : Launch) (hflags : l.flags = flags0) {b L : Nat} {xs : Nat → Int32} (hL : L ≤ 260) (C0 : lw_At p s m meth c b L xs) : W p l e room_1 s m #[Value.ref b] below meth c s.heap [] 0 0 (lw_Z below #[Value.ref b] s) (entryFrame m ([Value.ref b] : List Value).toArray 8) := by
  obtain ⟨hx, hb, hr, hml, hown, hts, hX, hbl, hlocks, -⟩ := C0
  obtain ⟨D, cI, cB, hK, hao⟩ := start_kk hts
  have hA : ∀ q : Nat, s.heap.size ≤ q → (fun q : Nat => s.heap.size ≤ q) q := fun _ h => h
  have S : CallFix p m c code 8 s #[Value.ref b] lw_tbl RL := ⟨hx, hb, hml, hown, hts⟩
  have hw := start_fill
  have hw1 := start_w
  generalize st_W = w at hw hw1
  have hS : va_S (fun q : Nat => s.heap.size ≤ q) s.heap s.heap [] := va_S.rf
  have hP : va_P D vwCl [] s.heap := fun k q h => by simp at h
  have hD : va_D (fun q : Nat => s.heap.size ≤ q) [] := ⟨fun i j p q h => by simp at h, fun k q h => by simp at h⟩
  have hl := lv_entry ([.ref b]) (n := 8) (Nat.le_of_ble_eq_true rfl)
  rw [lg_entry_eq]
  generalize (lg_sl ([.ref b]) ++ List.replicate (8 - (lg_sl ([.ref b])).length) Slot.unset).toArray = ls at hl ⊢
  replace hl : lv_has ls 8 [(0, .ref b)] := hl
  refine va_new (ci := 4) (fs := [.null, .null, .null, .null, .null, .null, .int 0, .null]) (C := RX4) (T := TX4) (N := 8) hx hb hts wsL_law_in0_wsX40 tyX4 tyX4_ok hown (hts _ m9_1_0) (hts _ m9_1_1) (hts _ m9_1_2) hK.1 hP hD hS hA rfl (fun j hj => by rcases (show j = 0 ∨ j = 1 ∨ j = 2 ∨ j = 3 ∨ j = 4 ∨ j = 5 ∨ j = 6 ∨ j = 7 by omega) with rfl | rfl | rfl | rfl | rfl | rfl | rfl | rfl <;> rfl) (Nat.le_of_ble_eq_true rfl) (Nat.le_of_ble_eq_true rfl) dL_law_0 (fun q1 H hP hD hS => ?_)
  replace hP : va_P D vwCl [(q1, .inr (4, [.null, .null, .null, .null, .null, .null, .int 0, .null]))] H := hP
  replace hD : va_D (fun q : Nat => s.heap.size ≤ q) [(q1, .inr (4, [.null, .null, .null, .null, .null, .null, .int 0, .null]))] := hD
  refine lv_dup hx hb dL_law_3 rfl ?_
  refine callCt (As := []) (rest := [.ref q1]) (wr := []) S hK hao hP hD hS hA (c_X4_init l D cI cI cB cI q1 _ w hw) [0] [] rfl rfl (by decide +kernel) (by decide +kernel) (by decide +kernel) (cwI 0 hts gl_X4_init rfl rfl rfl (hts _ m9_1_2) (hts _ m9_1_3) (hts _ m9_1_4) rfl hd_X4_init ⟨Nat.le_of_ble_eq_true rfl, Nat.le_of_ble_eq_true rfl⟩) rfl hl.1 rfl (Nat.le_of_ble_eq_true rfl) dL_law_4 ⟨Nat.le_of_ble_eq_true rfl, Nat.le_of_ble_eq_true rfl⟩ (fun f1 H locs hP hD hS => ?_)
  replace hP : va_P D vwCl [(q1, .inr (4, [.ref (f1 0), .ref (f1 1), .ref (f1 12), .ref (f1 13), .ref (f1 24), .ref (f1 50), .int 0, .ref (f1 54)])), ((f1 0), .inr (2, [.ref (f1 1), .ref (f1 5), .ref (f1 6), .ref (f1 7), .ref (f1 8), .ref (f1 9), .ref (f1 10), .ref (f1 11)])), ((f1 1), .inr (0, [.ref (f1 2), .ref (f1 3), .ref (f1 4)])), ((f1 2), .inl (cI, 10, .inl (fun _ => 0))), ((f1 4), .inl (cI, 63, .inl (fun _ => 0))), ((f1 3), .inl (cI, 12, .inl w)), ((f1 5), .inl (cI, 9, .inl (fun _ => 0))), ((f1 6), .inl (cI, 9, .inl (fun _ => 0))), ((f1 7), .inl (cI, 9, .inl (fun _ => 0))), ((f1 8), .inl (cI, 9, .inl (fun _ => 0))), ((f1 9), .inl (cI, 9, .inl (fun _ => 0))), ((f1 10), .inl (cI, 9, .inl (fun _ => 0))), ((f1 11), .inl (cI, 9, .inl (fun _ => 0))), ((f1 12), .inr (2, [.ref (f1 13), .ref (f1 17), .ref (f1 18), .ref (f1 19), .ref (f1 20), .ref (f1 21), .ref (f1 22), .ref (f1 23)])), ((f1 13), .inr (0, [.ref (f1 14), .ref (f1 15), .ref (f1 16)])), ((f1 14), .inl (cI, 10, .inl (fun _ => 0))), ((f1 16), .inl (cI, 63, .inl (fun _ => 0))), ((f1 15), .inl (cI, 12, .inl w)), ((f1 17), .inl (cI, 9, .inl (fun _ => 0))), ((f1 18), .inl (cI, 9, .inl (fun _ => 0))), ((f1 19), .inl (cI, 9, .inl (fun _ => 0))), ((f1 20), .inl (cI, 9, .inl (fun _ => 0))), ((f1 21), .inl (cI, 9, .inl (fun _ => 0))), ((f1 22), .inl (cI, 9, .inl (fun _ => 0))), ((f1 23), .inl (cI, 9, .inl (fun _ => 0))), ((f1 24), .inr (1, [.ref (f1 25), .int 0, .int 0])), ((f1 25), .inl (cB, 6, .inr (.inr (.inr (.inr (fun j => some (f1 (26 + 4 * j)))))))), ((f1 26), .inr (0, [.ref (f1 27), .ref (f1 28), .ref (f1 29)])), ((f1 27), .inl (cI, 10, .inl (fun _ => 0))), ((f1 29), .inl (cI, 63, .inl (fun _ => 0))), ((f1 28), .inl (cI, 12, .inl w)), ((f1 30), .inr (0, [.ref (f1 31), .ref (f1 32), .ref (f1 33)])), ((f1 31), .inl (cI, 10, .inl (fun _ => 0))), ((f1 33), .inl (cI, 63, .inl (fun _ => 0))), ((f1 32), .inl (cI, 12, .inl w)), ((f1 34), .inr (0, [.ref (f1 35), .ref (f1 36), .ref (f1 37)])), ((f1 35), .inl (cI, 10, .inl (fun _ => 0))), ((f1 37), .inl (cI, 63, .inl (fun _ => 0))), ((f1 36), .inl (cI, 12, .inl w)), ((f1 38), .inr (0, [.ref (f1 39), .ref (f1 40), .ref (f1 41)])), ((f1 39), .inl (cI, 10, .inl (fun _ => 0))), ((f1 41), .inl (cI, 63, .inl (fun _ => 0))), ((f1 40), .inl (cI, 12, .inl w)), ((f1 42), .inr (0, [.ref (f1 43), .ref (f1 44), .ref (f1 45)])), ((f1 43), .inl (cI, 10, .inl (fun _ => 0))), ((f1 45), .inl (cI, 63, .inl (fun _ => 0))), ((f1 44), .inl (cI, 12, .inl w)), ((f1 46), .inr (0, [.ref (f1 47), .ref (f1 48), .ref (f1 49)])), ((f1 47), .inl (cI, 10, .inl (fun _ => 0))), ((f1 49), .inl (cI, 63, .inl (fun _ => 0))), ((f1 48), .inl (cI, 12, .inl w)), ((f1 50), .inr (0, [.ref (f1 51), .ref (f1 52), .ref (f1 53)])), ((f1 51), .inl (cI, 10, .inl (fun _ => 0))), ((f1 53), .inl (cI, 63, .inl (fun _ => 0))), ((f1 52), .inl (cI, 12, .inl w)), ((f1 54), .inr (3, [.ref (f1 55), .int 0, .int 0, .int 0, .int 0, .int 0])), ((f1 55), .inl (cI, 60, .inl (fun _ => 0)))] H := hP
  replace hD : va_D (fun q : Nat => s.heap.size ≤ q) [(q1, .inr (4, [.ref (f1 0), .ref (f1 1), .ref (f1 12), .ref (f1 13), .ref (f1 24), .ref (f1 50), .int 0, .ref (f1 54)])), ((f1 0), .inr (2, [.ref (f1 1), .ref (f1 5), .ref (f1 6), .ref (f1 7), .ref (f1 8), .ref (f1 9), .ref (f1 10), .ref (f1 11)])), ((f1 1), .inr (0, [.ref (f1 2), .ref (f1 3), .ref (f1 4)])), ((f1 2), .inl (cI, 10, .inl (fun _ => 0))), ((f1 4), .inl (cI, 63, .inl (fun _ => 0))), ((f1 3), .inl (cI, 12, .inl w)), ((f1 5), .inl (cI, 9, .inl (fun _ => 0))), ((f1 6), .inl (cI, 9, .inl (fun _ => 0))), ((f1 7), .inl (cI, 9, .inl (fun _ => 0))), ((f1 8), .inl (cI, 9, .inl (fun _ => 0))), ((f1 9), .inl (cI, 9, .inl (fun _ => 0))), ((f1 10), .inl (cI, 9, .inl (fun _ => 0))), ((f1 11), .inl (cI, 9, .inl (fun _ => 0))), ((f1 12), .inr (2, [.ref (f1 13), .ref (f1 17), .ref (f1 18), .ref (f1 19), .ref (f1 20), .ref (f1 21), .ref (f1 22), .ref (f1 23)])), ((f1 13), .inr (0, [.ref (f1 14), .ref (f1 15), .ref (f1 16)])), ((f1 14), .inl (cI, 10, .inl (fun _ => 0))), ((f1 16), .inl (cI, 63, .inl (fun _ => 0))), ((f1 15), .inl (cI, 12, .inl w)), ((f1 17), .inl (cI, 9, .inl (fun _ => 0))), ((f1 18), .inl (cI, 9, .inl (fun _ => 0))), ((f1 19), .inl (cI, 9, .inl (fun _ => 0))), ((f1 20), .inl (cI, 9, .inl (fun _ => 0))), ((f1 21), .inl (cI, 9, .inl (fun _ => 0))), ((f1 22), .inl (cI, 9, .inl (fun _ => 0))), ((f1 23), .inl (cI, 9, .inl (fun _ => 0))), ((f1 24), .inr (1, [.ref (f1 25), .int 0, .int 0])), ((f1 25), .inl (cB, 6, .inr (.inr (.inr (.inr (fun j => some (f1 (26 + 4 * j)))))))), ((f1 26), .inr (0, [.ref (f1 27), .ref (f1 28), .ref (f1 29)])), ((f1 27), .inl (cI, 10, .inl (fun _ => 0))), ((f1 29), .inl (cI, 63, .inl (fun _ => 0))), ((f1 28), .inl (cI, 12, .inl w)), ((f1 30), .inr (0, [.ref (f1 31), .ref (f1 32), .ref (f1 33)])), ((f1 31), .inl (cI, 10, .inl (fun _ => 0))), ((f1 33), .inl (cI, 63, .inl (fun _ => 0))), ((f1 32), .inl (cI, 12, .inl w)), ((f1 34), .inr (0, [.ref (f1 35), .ref (f1 36), .ref (f1 37)])), ((f1 35), .inl (cI, 10, .inl (fun _ => 0))), ((f1 37), .inl (cI, 63, .inl (fun _ => 0))), ((f1 36), .inl (cI, 12, .inl w)), ((f1 38), .inr (0, [.ref (f1 39), .ref (f1 40), .ref (f1 41)])), ((f1 39), .inl (cI, 10, .inl (fun _ => 0))), ((f1 41), .inl (cI, 63, .inl (fun _ => 0))), ((f1 40), .inl (cI, 12, .inl w)), ((f1 42), .inr (0, [.ref (f1 43), .ref (f1 44), .ref (f1 45)])), ((f1 43), .inl (cI, 10, .inl (fun _ => 0))), ((f1 45), .inl (cI, 63, .inl (fun _ => 0))), ((f1 44), .inl (cI, 12, .inl w)), ((f1 46), .inr (0, [.ref (f1 47), .ref (f1 48), .ref (f1 49)])), ((f1 47), .inl (cI, 10, .inl (fun _ => 0))), ((f1 49), .inl (cI, 63, .inl (fun _ => 0))), ((f1 48), .inl (cI, 12, .inl w)), ((f1 50), .inr (0, [.ref (f1 51), .ref (f1 52), .ref (f1 53)])), ((f1 51), .inl (cI, 10, .inl (fun _ => 0))), ((f1 53), .inl (cI, 63, .inl (fun _ => 0))), ((f1 52), .inl (cI, 12, .inl w)), ((f1 54), .inr (3, [.ref (f1 55), .int 0, .int 0, .int 0, .int 0, .int 0])), ((f1 55), .inl (cI, 60, .inl (fun _ => 0)))] := hD
  refine lv_astore_n (lv' := [(1, .ref q1), (0, .ref b)]) hx hb dL_law_7 rfl hl (by decide) rfl (fun ls hl => ?_)
  have hperm : va_nd [0, 25, 2, 3, 4, 1, 6, 7, 8, 9, 10, 11, 12, 5, 14, 15, 17, 16, 13, 18, 19, 20, 21, 51, 52, 54, 53, 26, 27, 31, 35, 39, 43, 47, 28, 32, 36, 40, 44, 48, 30, 34, 38, 42, 46, 50, 29, 33, 37, 41, 45, 49] = true := by decide +kernel
  refine law_main q1 (f1 0) (f1 1) (f1 12) (f1 13) (f1 24) (f1 50) (f1 54) (f1 25) (f1 2) (f1 3) (f1 4) (f1 5) (f1 6) (f1 7) (f1 8) (f1 9) (f1 10) (f1 11) (f1 14) (f1 15) (f1 16) (f1 17) (f1 18) (f1 19) (f1 20) (f1 21) (f1 22) (f1 23) (f1 51) (f1 52) (f1 53) (fun j => f1 (26 + 4 * j)) (fun j => f1 (27 + 4 * j)) (fun j => f1 (28 + 4 * j)) (fun j => f1 (29 + 4 * j)) L xs 0 0 0 (fun _ => 0) (fun _ => 0) (fun _ => 0) (fun _ => 0) (fun _ => 0) (fun _ => 0) (fun _ => 0) (fun _ => 0) (fun _ => 0) w (fun _ => 0) w (fun _ => 0) (fun _ => 0) (fun _ => 0) (fun _ => 0) (fun _ => 0) (fun _ => 0) w (fun _ => 0) (fun _ _ => 0) (fun _ => w) (fun _ _ => 0) 1 (la_law hL xs _ _ _ _ _ _ _ _ _ _ _ _ _ _ _ _ _ _ _ _ _ _ _ _ (start_jb hw1)) hx hb hml hown hts hX hbl (fun h => absurd hbl (Nat.not_lt.mpr h)) hK hA ?_ H locs (hP.sub [0, 25, 2, 3, 4, 1, 6, 7, 8, 9, 10, 11, 12, 5, 14, 15, 17, 16, 13, 18, 19, 20, 21, 51, 52, 54, 53, 26, 27, 31, 35, 39, 43, 47, 28, 32, 36, 40, 44, 48, 30, 34, 38, 42, 46, 50, 29, 33, 37, 41, 45, 49] rfl) (hD.sub [0, 25, 2, 3, 4, 1, 6, 7, 8, 9, 10, 11, 12, 5, 14, 15, 17, 16, 13, 18, 19, 20, 21, 51, 52, 54, 53, 26, 27, 31, 35, 39, 43, 47, 28, 32, 36, 40, 44, 48, 30, 34, 38, 42, 46, 50, 29, 33, 37, 41, 45, 49] hperm rfl) hS ls hl
  intro pc ls H locs cells slots hcells hslots hdg hS
  refine va_forget (fun q hq => hS.2.2 q hq) ?_
  refine W.widen (k := 600130) (n := 7301080) (Nat.le_trans hcells (by decide)) (Nat.le_trans hslots (by decide)) ?_
  exact W.base (lw_ret (Drawn.sameBut.refl s.drawn lw_cs) hx hb hr hlocks hdg)
