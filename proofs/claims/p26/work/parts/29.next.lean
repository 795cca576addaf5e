/-! the reference's next one; the field to which it retreats -/
section NX
variable {n : Nat} {v : Nat → Nat → Int32} {bN bC s st re dr dn sd pl fa : Nat → Int32} {a : Nat} {W : Nat → Prop}
theorem nI_leS {x y : Nat} (hx : x ≤ 10) (hy : y ≤ 10) {α : Type} {p q : α} : (if nI x ≤ nI y then p else q) = if y < x then q else p := by
  by_cases h : y < x
  · rw [if_pos h, if_neg (nI_ge h (by omega))]
  · rw [if_neg h, if_pos (nI_le (by omega) (by omega))]
theorem x5_next (h : MB n v s) (hst : ∀ o, o < n → st o = nI (stN n v o)) (hdr : ∀ o, o < n → dr o = drS n v o) (hW : ∀ o, o < n → (W o ↔ drv n v o ∧ dn o = 0)) : g_X5_nextDriven s dr dn st = some (mx n W (dsN n v)) := by
  have hn := h.1
  have hs : ∀ o, stN n v o ≤ 10 := fun o => Nat.le_trans (st_le n v o) (by omega)
  have r9 : ∀ {α : Type} {f : Nat → Int32} {j : Nat} {k : Int32 → Option α}, j < n → rdA f 9 (nI j) k = k (f j) := fun hj => rdA_n (by omega) (by decide)
  rw [g_X5_nextDriven, bd_id]
  obtain ⟨y, h1, h2⟩ := lpF (fun nf i (z : Int32) => g_X5_nextDriven_L1 s dr dn st nf z (nI i)) n (fun i z => z = mx i W (dsN n v)) (fun y => y = mx n W (dsN n v)) (by omega) (-1) rfl
    (fun nf i z hi hI => by
      refine Or.inl ⟨mx (i + 1) W (dsN n v), rfl, ?_⟩
      rw [mx_succ i W (dsN n v)]
      by_cases hw : W i
      · obtain ⟨g1, g2⟩ := (hW i hi).mp hw
        obtain ⟨b, b1, b2, b3, _⟩ := drv_ix hn g1
        rcases mx_cases i W (dsN n v) with ⟨c, c1, c2, c3⟩ | ⟨_, c3⟩
        · obtain ⟨b', d1, d2, d3, _⟩ := drv_ix hn ((hW c (by omega)).mp c2).1
          rw [hI, c3, nI_clamp (by omega)]
          simp only [g_X5_nextDriven_L1, x5_n h, go_on hn hi, r9 hi, hdr i hi, b2, if_neg (nI_m1 (show b < 2 ^ 31 by omega)), g2, if_true, if_neg (nI_m1 (show c < 2 ^ 31 by omega)), r9 b1, hst b b1, r9 (show c < n by omega), hdr c (by omega), d2, r9 d1, hst b' d1, nI_leS (hs b) (hs b'), g_X5_nextDriven_J1, nI_1, b3, d3]
          by_cases e : stN n v b' < stN n v b
          · rw [if_pos e, if_neg (by decide), cite_t ⟨hw, Or.inr e⟩]
          · rw [if_neg e, cite_f (fun w => w.2.elim (nI_m1 (by omega)) e)]
        · rw [hI, c3, cite_t ⟨hw, Or.inl rfl⟩]
          simp only [g_X5_nextDriven_L1, x5_n h, go_on hn hi, r9 hi, hdr i hi, b2, if_neg (nI_m1 (show b < 2 ^ 31 by omega)), g2, if_true, g_X5_nextDriven_J1, nI_1]
          rw [if_neg (by decide)]
      · rw [cite_f (fun w => hw w.1), hI]
        simp only [g_X5_nextDriven_L1, x5_n h, go_on hn hi, r9 hi, hdr i hi, g_X5_nextDriven_J1, nI_1]
        by_cases e1 : drS n v i = -1
        · rw [if_pos e1, if_pos trivial]
        · rw [if_neg e1, if_neg (fun w => hw ((hW i hi).mpr ⟨e1, w⟩)), if_pos trivial])
    (fun nf z hI => ⟨z, by simp only [g_X5_nextDriven_L1, x5_n h, go_out hn], hI⟩)
  exact h1.trans (by rw [h2])
theorem x2_isTaken (h : CB n v bN bC) (x : Int32) : g_X2_isTaken bN sd x = some (bi (∃ b, b < n ∧ sd b = x)) := by
  have hn := h.1
  refine lpEb (fun nf i => g_X2_isTaken_L1 bN sd x nf (nI i)) n _ (by omega) (fun nf i hi => ?_) (fun nf => ?_)
  · simp only [g_X2_isTaken_L1, x0_number0 h, go_on hn hi, bd_some, x4_entry (show i < 9 by omega), nI_1]
    by_cases e : sd i = x <;> simp [e]
  · simp only [g_X2_isTaken_L1, x0_number0 h, bd_some, go_out hn]
theorem x2_wasFought (h : CB n v bN bC) (x : Int32) : g_X2_wasFoughtFor bN re bC x = some (bi (∃ b, b < n ∧ re b = 1 ∧ v b 3 = x)) := by
  have hn := h.1
  refine lpEb (fun nf i => g_X2_wasFoughtFor_L1 bN re bC x nf (nI i)) n _ (by omega) (fun nf i hi => ?_) (fun nf => ?_)
  · simp only [g_X2_wasFoughtFor_L1, x0_number0 h, go_on hn hi, bd_some, x4_entry (show i < 9 by omega), x0_of3 h hi, nI_1]
    by_cases e : re i = 1 <;> by_cases e2 : v i 3 = x <;> simp [e, e2]
  · simp only [g_X2_wasFoughtFor_L1, x0_number0 h, bd_some, go_out hn]
theorem ex_or {n : Nat} {P Q : Nat → Prop} : (∃ b, b < n ∧ (P b ∨ Q b)) ↔ (∃ b, b < n ∧ P b) ∨ ∃ b, b < n ∧ Q b :=
  ⟨fun ⟨b, h1, h2⟩ => h2.elim (fun q => Or.inl ⟨b, h1, q⟩) (fun q => Or.inr ⟨b, h1, q⟩), fun h => h.elim (fun ⟨b, h1, h2⟩ => ⟨b, h1, Or.inl h2⟩) (fun ⟨b, h1, h2⟩ => ⟨b, h1, Or.inr h2⟩)⟩
theorem x5_isTaken (h : MB n v s) (hd : dist n v) (hf : ∀ a, a < n → fa a = bi (Fx n v a)) (hw : ∀ a, a < n → re a = wyS n v a) (x : Int32) : g_X5_isTaken s pl fa re x = some (bi ((∃ b, b < n ∧ pl b = x) ∨ ∃ b, b < n ∧ wyS n v b = 1 ∧ v b 3 = x)) := by
  have hn := h.1
  have r9 : ∀ {α : Type} {f : Nat → Int32} {j : Nat} {k : Int32 → Option α}, j < n → rdA f 9 (nI j) k = k (f j) := fun hj => rdA_n (by omega) (by decide)
  rw [g_X5_isTaken, bd_id, bi_c ex_or.symm]
  refine lpX (fun nf i z => g_X5_isTaken_L1 s pl x fa re nf z (nI i)) n (fun b => pl b = x ∨ wyS n v b = 1 ∧ v b 3 = x) (by omega) (fun nf i z hi hz => ?_) (fun nf z => ?_)
  · simp only [g_X5_isTaken_L1, x5_n h, go_on hn hi, r9 hi, hf i hi, hw i hi, ibi, bd_some, x5_of3 h hi, nI_1]
    rcases hz with rfl | rfl
    · by_cases e1 : pl i = x
      · simp [e1, bi]
      · by_cases e2 : Fx n v i
        · by_cases e3 : wyS n v i = 1 <;> by_cases e4 : v i 3 = x <;> simp [e1, e2, e3, e4, bi]
        · have e3 : ¬ wyS n v i = 1 := by rw [(wyS_0 hn hd).mpr e2]; decide
          simp [e1, e2, e3, bi]
    · simp [bi]
  · simp only [g_X5_isTaken_L1, x5_n h, go_out hn]
end NX
