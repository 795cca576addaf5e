/-! orders: which supports are cut, which count, how strong -/
def cutP (n : Nat) (v : Nat → Nat → Int32) (a : Nat) : Prop := ∃ c, c < n ∧ v c 2 = 1 ∧ v c 3 = v a 1 ∧ ¬ v c 0 = v a 0 ∧ ¬ v c 1 = v a 3
def useP (n : Nat) (v : Nat → Nat → Int32) (a : Nat) : Prop := ∃ h, h < n ∧ v h 1 = v a 4 ∧ h ≠ a ∧ ((v a 4 = v a 3 ∧ ¬ v h 2 = 1) ∨ (¬ v a 4 = v a 3 ∧ v h 2 = 1 ∧ v h 3 = v a 3))
def cutQ (n : Nat) (v : Nat → Nat → Int32) (a : Nat) : Prop := v a 2 = 2 ∧ cutP n v a
def cntQ (n : Nat) (v : Nat → Nat → Int32) (a : Nat) : Prop := v a 2 = 2 ∧ useP n v a ∧ ¬ cutP n v a
noncomputable def stN (n : Nat) (v : Nat → Nat → Int32) (a : Nat) : Nat := 1 + num n (fun c => cntQ n v c ∧ v c 4 = v a 1)
section OR
variable {n : Nat} {v : Nat → Nat → Int32} {bN bC s : Nat → Int32} {a : Nat}
theorem x2_isCutOff (h : CB n v bN bC) (ha : a < n) : g_X2_isCutOff bN bC (nI a) = some (bi (cutP n v a)) := by
  have hn := h.1
  refine lpEb (fun nf i => g_X2_isCutOff_L1 bN bC (nI a) nf (nI i)) n _ (by omega) (fun nf i hi => ?_) (fun nf => ?_)
  · simp only [g_X2_isCutOff_L1, x0_number0 h, bd_some, go_on hn hi, x2_moves h hi, ibi, x0_of3 h hi, x0_of1 h ha, x0_of0 h hi, x0_of0 h ha, x0_of1 h hi, x0_of3 h ha, nI_1]
    by_cases e2 : v i 2 = 1 <;> by_cases e3 : v i 3 = v a 1 <;> by_cases e0 : v i 0 = v a 0 <;> by_cases e1 : v i 1 = v a 3 <;> simp [e2, e3, e0, e1]
  · simp only [g_X2_isCutOff_L1, x0_number0 h, bd_some, go_out hn]
theorem x5_isAttacked (h : MB n v s) (ha : a < n) : g_X5_isAttacked s (nI a) = some (bi (cutP n v a)) := by
  have hn := h.1
  rw [g_X5_isAttacked, bd_id]
  refine lpX (fun nf i x => g_X5_isAttacked_L1 s (nI a) nf x (nI i)) n _ (by omega) (fun nf i x hi hx => ?_) (fun nf x => ?_)
  · simp only [g_X5_isAttacked_L1, x5_n h, bd_some, go_on hn hi, x5_movesTo h hi, ibi, x5_of3 h hi, x5_of1 h ha, x5_of0 h hi, x5_of0 h ha, x5_of1 h hi, x5_of3 h ha, nI_1]
    rcases hx with rfl | rfl
    · by_cases e2 : v i 2 = 1 <;> by_cases e3 : v i 3 = v a 1 <;> by_cases e0 : v i 0 = v a 0 <;> by_cases e1 : v i 1 = v a 3 <;> simp [e2, e3, e0, e1, bi]
    · simp [bi]
  · simp only [g_X5_isAttacked_L1, x5_n h, bd_some, go_out hn]
/-- what follows on an army's field, or none there -/
theorem on_cases (hn : n ≤ 9) (hd : dist n v) (x : Int32) : (∃ o, o < n ∧ v o 1 = x ∧ (fi n fun c => v c 1 = x) = nI o) ∨ ((∀ o, o < n → ¬ v o 1 = x) ∧ (fi n fun c => v c 1 = x) = -1) := by
  rcases fi_cases n (fun c => v c 1 = x) with ⟨o, h1, h2, h3, h4⟩ | h
  · exact Or.inl ⟨o, h1, h2, h4⟩
  · exact Or.inr h
theorem useP_of (hd : dist n v) {o : Nat} (ho : o < n) (e : v o 1 = v a 4) : useP n v a ↔ (o ≠ a ∧ ((v a 4 = v a 3 ∧ ¬ v o 2 = 1) ∨ (¬ v a 4 = v a 3 ∧ v o 2 = 1 ∧ v o 3 = v a 3))) := by
  constructor
  · rintro ⟨h, h1, h2, h3⟩
    obtain rfl := hd h o h1 ho (h2.trans e.symm)
    exact h3
  · intro h
    exact ⟨o, ho, e, h⟩
theorem x2_hasUse (h : CB n v bN bC) (hd : dist n v) (ha : a < n) : g_X2_hasUse bC bN (nI a) = some (bi (useP n v a)) := by
  have hn := h.1
  rw [g_X2_hasUse, x0_of4 h ha, bd_some, x0_armyOn h, bd_some]
  rcases on_cases hn hd (v a 4) with ⟨o, ho, e, hf⟩ | ⟨e, hf⟩
  · rw [hf, if_neg (nI_m1 (by omega)), bi_c (useP_of hd ho e)]
    simp only [x0_of4 h ha, x0_of3 h ha, x0_of3 h ho, x2_moves h ho, bd_some, ibi, nI_eq (show o < 2 ^ 31 by omega) (show a < 2 ^ 31 by omega)]
    by_cases e1 : o = a
    · simp [e1, bi]
    · by_cases e2 : v a 4 = v a 3 <;> by_cases e3 : v o 2 = 1 <;> by_cases e4 : v o 3 = v a 3 <;> simp [e1, e2, e3, e4, bi]
  · rw [hf, if_pos rfl, bi_f]
    rintro ⟨o, h1, h2, _⟩
    exact e o h1 h2
theorem x5_hasObject (h : MB n v s) (hd : dist n v) (ha : a < n) : g_X5_hasObject s (nI a) = some (bi (v a 2 = 2 ∧ useP n v a)) := by
  have hn := h.1
  rw [g_X5_hasObject, x5_of4 h ha, bd_some, x5_armyOn h hd, bd_some, x5_of2 h ha, bd_some]
  by_cases e5 : v a 2 = 2
  · rw [if_pos e5]
    rcases on_cases hn hd (v a 4) with ⟨o, ho, e, hf⟩ | ⟨e, hf⟩
    · rw [hf, if_neg (nI_m1 (by omega)), bi_c (and_congr Iff.rfl (useP_of hd ho e))]
      simp only [x5_of4 h ha, x5_of3 h ha, x5_movesTo h ho, x5_moves h ho, bd_some, ibi, nI_eq (show o < 2 ^ 31 by omega) (show a < 2 ^ 31 by omega)]
      by_cases e1 : o = a
      · simp [e1, bi]
      · by_cases e2 : v a 4 = v a 3 <;> by_cases e3 : v o 2 = 1 <;> by_cases e4 : v o 3 = v a 3 <;> simp [e1, e2, e3, e4, e5, bi]
    · rw [hf, if_pos rfl, bi_f]
      rintro ⟨_, o, h1, h2, _⟩
      exact e o h1 h2
  · rw [if_neg e5, bi_f (fun q => e5 q.1)]
end OR
