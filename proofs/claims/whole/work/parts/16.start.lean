/-! from the entry of the law to its loop -/
theorem start_arr {ty : FieldType} {U : State} {av : Array Value} (hty : ∀ C, ty ≠ .object C) (h : (Cond.arrayClass ty).before av U = true) : ∃ cA : ClassId, ArrOfT U cA ty ∧ va_RA U cA ty := by
  obtain ⟨c, k, comp, h1, h2, h3⟩ := Cond.arrayClass_spec h
  refine ⟨c, fun N z => ⟨(fun k h => by cases h), k, h2, comp, h3⟩, ?_⟩
  cases ty with
  | object C => exact absurd rfl (hty C)
  | _ => exact h1
theorem start_aro {C : String} {U : State} {av : Array Value} (h : (Cond.arrayOver (.object C)).before av U = true) : ∃ cA : ClassId, ArrOfT U cA (.object C) ∧ va_RA U cA (.object C) := by
  obtain ⟨comp, c, k, h1, _, h2, h3, h4⟩ := Cond.arrayOver_spec h
  exact ⟨c, fun N z => ⟨(fun k h => by cases h), k, h2, comp, h3⟩, ⟨k, comp, h2, h3, h1, h4⟩⟩
def gD (C : Nat → ClassId) (I : Nat → Nat → Nat) : va_G := (C, I)
theorem start_known {U : State} {av : Array Value} (hts : ∀ w ∈ lw_tbl, w.before av U = true) : ∃ D : va_G, ∀ (c : Nat) (q : vw_C), vwCl[c]? = some q → u_Kn U q.1 q.2.1 q.2.2 (D.1 c) (D.2 c) := by
  obtain ⟨c0, i0, h0⟩ := u_known (C := RX0) (T := TX0) (N := 3) hts wsL_law_in0_wsX00 (hts _ m9_1_14)
  obtain ⟨c1, i1, h1⟩ := u_known (C := RX1) (T := TX1) (N := 3) hts wsL_law_in0_wsX10 (hts _ m9_2_0)
  obtain ⟨c2, i2, h2⟩ := u_known (C := RX2) (T := TX2) (N := 8) hts wsL_law_in0_wsX20 (hts _ m9_1_18)
  obtain ⟨c3, i3, h3⟩ := u_known (C := RX3) (T := TX3) (N := 6) hts wsL_law_in0_wsX30 (hts _ m9_2_6)
  obtain ⟨c4, i4, h4⟩ := u_known (C := RX4) (T := TX4) (N := 8) hts wsL_law_in0_wsX40 (hts _ m9_1_1)
  obtain ⟨c5, i5, h5⟩ := u_known (C := RX5) (T := TX5) (N := 20) hts wsL_law_in0_wsX50 (hts _ m9_1_4)
  refine ⟨(fun c => match c with | 0 => c0 | 1 => c1 | 2 => c2 | 3 => c3 | 4 => c4 | 5 => c5 | _ => c0, fun c => match c with | 0 => i0 | 1 => i1 | 2 => i2 | 3 => i3 | 4 => i4 | 5 => i5 | _ => i0), fun c q hq => ?_⟩
  match c, hq with
  | 0, hq => obtain rfl := Option.some.inj hq; exact h0
  | 1, hq => obtain rfl := Option.some.inj hq; exact h1
  | 2, hq => obtain rfl := Option.some.inj hq; exact h2
  | 3, hq => obtain rfl := Option.some.inj hq; exact h3
  | 4, hq => obtain rfl := Option.some.inj hq; exact h4
  | 5, hq => obtain rfl := Option.some.inj hq; exact h5
  | n + 6, hq => cases hq
theorem nwl_nest : ∀ w ∈ nwL, Cond.onTables w = true := by decide +kernel
theorem nwl_in : ∀ w ∈ nwL, w ∈ lw_tbl := by decide +kernel
theorem cwl_on : ∀ w ∈ cwL, Cond.onTables w = true := by decide +kernel
theorem cwl_in : ∀ w ∈ cwL, w ∈ lw_tbl := by decide +kernel
theorem start_str : ∀ q ∈ xtL, Cond.stringRef RX4 q.1 q.2 ∈ lw_tbl := by decide +kernel
