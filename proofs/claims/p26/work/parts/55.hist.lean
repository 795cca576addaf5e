/-! p26: what is in order between two changes; the saved states; small numbers -/
def JB (K : Nat) (bN bO bC : Nat → Int32) : Prop := ∃ n s, okS K n s ∧ eqB n bN bO bC s ∧ bN 1 * 2 + bN 2 = bN 3
def JH (K : Nat) (old sav : Int32) (hN hO hC : Nat → Nat → Int32) : Prop := ∃ o m, o < 6 ∧ m ≤ 6 ∧ old = nI o ∧ sav = nI m ∧ ∀ k, k < m → JB K (hN ((o + k) % 6)) (hO ((o + k) % 6)) (hC ((o + k) % 6))
theorem JB_c {K : Nat} {bN bO bC bN' bO' bC' : Nat → Int32} (h : JB K bN bO bC) (hN : ∀ j, j < 10 → bN' j = bN j) (hO : ∀ j, j < 12 → bO' j = bO j) (hC : ∀ j, j < 63 → bC' j = bC j) : JB K bN' bO' bC' := by
  obtain ⟨n, s, h1, h2, h3⟩ := h
  obtain ⟨n', h4, h5⟩ := RB_c (show RB K bN bO bC s from ⟨n, h1, h2⟩) hN hO hC (fun _ _ => rfl)
  exact ⟨n', s, h4, h5, by rw [hN 1 (by decide), hN 2 (by decide), hN 3 (by decide)]; exact h3⟩
theorem okS_up {K n : Nat} {s : Nat → Int32} (h : okS K n s) : okS (K + 1) n s := by
  obtain ⟨h1, h2, h3, ⟨a, b, ha, hb, e⟩, h5⟩ := h
  exact ⟨h1, h2, h3, ⟨a, b, by omega, by omega, e⟩, h5⟩
theorem JB_up {K : Nat} {bN bO bC : Nat → Int32} (h : JB K bN bO bC) : JB (K + 1) bN bO bC := by
  obtain ⟨n, s, h1, h2⟩ := h
  exact ⟨n, s, okS_up h1, h2⟩
theorem JH_up {K : Nat} {old sav : Int32} {hN hO hC : Nat → Nat → Int32} (h : JH K old sav hN hO hC) : JH (K + 1) old sav hN hO hC := by
  obtain ⟨o, m, h1, h2, h3, h4, h5⟩ := h
  exact ⟨o, m, h1, h2, h3, h4, fun k hk => JB_up (h5 k hk)⟩
section HI
variable {K : Nat} {bN bO bC : Nat → Int32} {old sav : Int32} {hN hO hC : Nat → Nat → Int32}
theorem JH_save (h : JH K old sav hN hO hC) (hB : JB K bN bO bC) : ∃ o m hN' hO' hC', o < 6 ∧ m < 6 ∧ g_X1_save old sav hN hO hC bN bO bC = some (nI o, nI (m + 1), hN', hO', hC') ∧ JH K (nI o) (nI (m + 1)) hN' hO' hC' ∧ (∀ j, j < 10 → hN' ((o + m) % 6) j = bN j) ∧ (∀ j, j < 12 → hO' ((o + m) % 6) j = bO j) ∧ ∀ j, j < 63 → hC' ((o + m) % 6) j = bC j := by
  obtain ⟨o, m, ho, hm, rfl, rfl, hk⟩ := h
  by_cases e : m = 6
  · subst e
    have ho' : (o + 1) % 6 < 6 := Nat.mod_lt _ (by decide)
    have e1 : (nI o + 1) - (nI o + 1) / 6 * 6 = nI ((o + 1) % 6) := by
      rw [nI_1]; exact pk_rem (d := 6) (by omega) (by decide) (by decide)
    refine ⟨(o + 1) % 6, 5, va_up hN (((o + 1) % 6 + 5) % 6) (va_cpy bN (hN (((o + 1) % 6 + 5) % 6)) 0 0 10), va_up hO (((o + 1) % 6 + 5) % 6) (va_cpy bO (hO (((o + 1) % 6 + 5) % 6)) 0 0 12), va_up hC (((o + 1) % 6 + 5) % 6) (va_cpy bC (hC (((o + 1) % 6 + 5) % 6)) 0 0 63), ho', by decide, ?_, ⟨(o + 1) % 6, 6, ho', Nat.le_refl _, rfl, rfl, fun k hk6 => ?_⟩, fun j hj => ?_, fun j hj => ?_, fun j hj => ?_⟩
    · rw [g_X1_save, if_pos (show nI 6 = 6 from rfl), e1]
      exact x1_put ho' (show 5 < 6 by decide)
    · by_cases e2 : k = 5
      · subst e2
        rw [va_up_self, va_up_self, va_up_self]
        exact JB_c hB (fun j hj => cp0 hj) (fun j hj => cp0 hj) (fun j hj => cp0 hj)
      · have e3 : ((o + 1) % 6 + k) % 6 ≠ ((o + 1) % 6 + 5) % 6 := by omega
        rw [va_up_ne _ _ e3, va_up_ne _ _ e3, va_up_ne _ _ e3, show ((o + 1) % 6 + k) % 6 = (o + (k + 1)) % 6 by omega]
        exact hk (k + 1) (by omega)
    · rw [va_up_self]; exact cp0 hj
    · rw [va_up_self]; exact cp0 hj
    · rw [va_up_self]; exact cp0 hj
  · have hne : ¬ nI m = 6 := fun q => e ((nI_eq (b := 6) (by omega) (by decide)).mp q)
    refine ⟨o, m, va_up hN ((o + m) % 6) (va_cpy bN (hN ((o + m) % 6)) 0 0 10), va_up hO ((o + m) % 6) (va_cpy bO (hO ((o + m) % 6)) 0 0 12), va_up hC ((o + m) % 6) (va_cpy bC (hC ((o + m) % 6)) 0 0 63), ho, by omega, ?_, ⟨o, m + 1, ho, by omega, rfl, rfl, fun k hk6 => ?_⟩, fun j hj => ?_, fun j hj => ?_, fun j hj => ?_⟩
    · rw [g_X1_save, if_neg hne]
      exact x1_put ho (by omega)
    · by_cases e2 : k = m
      · subst e2
        rw [va_up_self, va_up_self, va_up_self]
        exact JB_c hB (fun j hj => cp0 hj) (fun j hj => cp0 hj) (fun j hj => cp0 hj)
      · have e3 : (o + k) % 6 ≠ (o + m) % 6 := by omega
        rw [va_up_ne _ _ e3, va_up_ne _ _ e3, va_up_ne _ _ e3]
        exact hk k (by omega)
    · rw [va_up_self]; exact cp0 hj
    · rw [va_up_self]; exact cp0 hj
    · rw [va_up_self]; exact cp0 hj
theorem JH_save' (h : JH K old sav hN hO hC) (hB : JB K bN bO bC) : ∃ old' sav' hN' hO' hC', g_X1_save old sav hN hO hC bN bO bC = some (old', sav', hN', hO', hC') ∧ JH K old' sav' hN' hO' hC' := by
  obtain ⟨o, m, hN', hO', hC', _, _, h3, h4, _⟩ := JH_save h hB
  exact ⟨_, _, _, _, _, h3, h4⟩
end HI
/-! small numbers out of a script's ints -/
theorem low_n (x : Int32) {n : Nat} (h0 : 0 < n) (hn : n < 2 ^ 31) : ∃ j, j < n ∧ g_L_low x (nI n) = some (nI j) := by
  obtain ⟨j, hj, e⟩ := pk_andE x (m := 2147483647) 31 (by decide)
  refine ⟨j % n, Nat.mod_lt _ h0, ?_⟩
  rw [g_L_low, nzA, if_neg (nI_ne0 h0 hn), e, pk_rem (by omega) h0 hn]
theorem adj_off : ∀ F, F < 12 → ∀ k, k < 4 → (F + [1, 4, 8, 11].getD k 0) % 12 < 12 ∧ ((F < (F + [1, 4, 8, 11].getD k 0) % 12 ∧ ((F + [1, 4, 8, 11].getD k 0) % 12 - F = 1 ∨ (F + [1, 4, 8, 11].getD k 0) % 12 - F = 4 ∨ (F + [1, 4, 8, 11].getD k 0) % 12 - F = 8 ∨ (F + [1, 4, 8, 11].getD k 0) % 12 - F = 11)) ∨ ((F + [1, 4, 8, 11].getD k 0) % 12 < F ∧ (F - (F + [1, 4, 8, 11].getD k 0) % 12 = 1 ∨ F - (F + [1, 4, 8, 11].getD k 0) % 12 = 4 ∨ F - (F + [1, 4, 8, 11].getD k 0) % 12 = 8 ∨ F - (F + [1, 4, 8, 11].getD k 0) % 12 = 11))) := by decide +kernel
theorem beside_J {F : Nat} (hF : F < 12) {k c : Nat} (hk : k < 4) (hc : [1, 4, 8, 11].getD k 0 = c) : ∃ T, T < 12 ∧ adjN F T ∧ g_L_beside_J1 (nI F) (nI c) = some (nI T) := by
  obtain ⟨h1, h2⟩ := adj_off F hF k hk
  rw [hc] at h1 h2
  refine ⟨(F + c) % 12, h1, h2, ?_⟩
  have hc12 : c < 12 := by
    rw [← hc]
    rcases (show k = 0 ∨ k = 1 ∨ k = 2 ∨ k = 3 by omega) with rfl | rfl | rfl | rfl <;> decide
  have e : (nI F + nI c) - (nI F + nI c) / 12 * 12 = nI ((F + c) % 12) := by
    rw [nI_add]; exact pk_rem (d := 12) (by omega) (by decide) (by decide)
  rw [g_L_beside_J1, e]
theorem beside_n (x : Int32) {F : Nat} (hF : F < 12) : ∃ T, T < 12 ∧ adjN F T ∧ g_L_beside (nI F) x = some (nI T) := by
  rw [g_L_beside]
  by_cases h0 : x &&& 3 = 0
  · rw [if_pos h0]; exact beside_J hF (k := 0) (c := 1) (by decide) rfl
  · rw [if_neg h0]
    by_cases h1 : x &&& 3 = 1
    · rw [if_pos h1]; exact beside_J hF (k := 1) (c := 4) (by decide) rfl
    · rw [if_neg h1]
      by_cases h2 : x &&& 3 = 2
      · rw [if_pos h2]; exact beside_J hF (k := 2) (c := 8) (by decide) rfl
      · rw [if_neg h2]; exact beside_J hF (k := 3) (c := 11) (by decide) rfl
theorem cell_n (n : Nat) (V : Nat → Int32) (hn : n < 2 ^ 31) (k : Nat) (hk : k < 2 ^ 31) : ∃ z, g_L_cell n V (nI k) = some z := by
  rw [g_L_cell]
  by_cases h : Int32.ofNat n ≤ nI k
  · rw [if_pos h]; exact ⟨_, rfl⟩
  · rw [if_neg h]
    have hk : k < n := Nat.lt_of_not_le (fun w => h (nI_le (a := n) (b := k) w (by omega)))
    rw [rdA_n hk hn]; exact ⟨_, rfl⟩
