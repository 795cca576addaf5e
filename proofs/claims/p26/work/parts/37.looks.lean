/-! looks: counting, masks, the lowest field, others seen -/
/-- a loop whose value at each step is known -/
theorem lpV {σ : Type} (L : Nat → Nat → σ → Option σ) (n : Nat) (acc : Nat → σ) (hn : n < 5000)
    (step : ∀ nf i, i < n → L (nf + 1) i (acc i) = L nf (i + 1) (acc (i + 1))) (stop : ∀ nf, L (nf + 1) n (acc n) = some (acc n)) : L FU 0 (acc 0) = some (acc n) := by
  obtain ⟨y, h1, h2⟩ := lpF L n (fun i x => x = acc i) (fun y => y = acc n) hn (acc 0) rfl
    (fun nf i x hi hI => Or.inl ⟨acc (i + 1), rfl, by rw [hI]; exact step nf i hi⟩)
    (fun nf x hI => ⟨acc n, by rw [hI]; exact stop nf, rfl⟩)
  rw [h1, h2]
noncomputable def nma (x : Int32) : Nat → Int32
  | 0 => 0
  | i + 1 => if nb x (nI i) = 0 then nma x i ||| 0 else nma x i ||| (1 <<< (nI i &&& 31))
noncomputable def nm (x : Int32) : Int32 := nma x 12
theorem x4_mask (x : Int32) : g_X4_neighbourMask x = some (nm x) := by
  rw [g_X4_neighbourMask, bd_id]
  refine lpV (fun nf i y => g_X4_neighbourMask_L1 x nf y (nI i)) 12 (nma x) (by decide) (fun nf i hi => ?_) (fun nf => ?_)
  · rw [g_X4_neighbourMask_L1, past (M := 12) 12 rfl hi (by decide), x4_nb, bd_some, nI_1]
    by_cases e : nb x (nI i) = 0
    · rw [if_pos e, nma, if_pos e]
    · rw [if_neg e, nma, if_neg e]
  · rw [g_X4_neighbourMask_L1, pastE (M := 12) 12 rfl (Nat.le_refl _) (by decide)]
theorem x5_mask (x : Int32) : g_X5_neighbours x = some (nm x) := by
  rw [g_X5_neighbours, bd_id]
  refine lpV (fun nf i y => g_X5_neighbours_L1 x nf y (nI i)) 12 (nma x) (by decide) (fun nf i hi => ?_) (fun nf => ?_)
  · rw [g_X5_neighbours_L1, past (M := 12) 12 rfl hi (by decide), x5_nb, bd_some, nI_1]
    by_cases e : nb x (nI i) = 0
    · rw [if_pos e, nma, if_pos e]
    · rw [if_neg e, nma, if_neg e]
  · rw [g_X5_neighbours_L1, pastE (M := 12) 12 rfl (Nat.le_refl _) (by decide)]
/-- what a seat sees, army by army -/
noncomputable def sna (v : Nat → Nat → Int32) (q : Int32) : Nat → Int32
  | 0 => 0
  | i + 1 => if v i 0 = q then sna v q i ||| ((1 <<< (v i 1 &&& 31)) ||| nm (v i 1)) else sna v q i
noncomputable def loa (v : Nat → Nat → Int32) (q : Int32) : Nat → Int32
  | 0 => -1
  | i + 1 => if v i 0 = q then (if loa v q i = -1 then v i 1 else if loa v q i ≤ v i 1 then loa v q i else v i 1) else loa v q i
noncomputable def osa (v : Nat → Nat → Int32) (q r : Int32) : Nat → Int32
  | 0 => 0
  | i + 1 => if v i 0 = q then osa v q r i + 0 else osa v q r i + ((r >>> (v i 1 &&& 31)) &&& 1)
section LK
variable {n : Nat} {v : Nat → Nat → Int32} {bN bC s : Nat → Int32}
theorem or_0 (x : Int32) : x ||| 0 = x := by simp
theorem x0_seen (h : CB n v bN bC) (q : Int32) : g_X0_seenMask bN bC q = some (sna v q n) := by
  have hn := h.1
  rw [g_X0_seenMask, bd_id]
  refine lpV (fun nf i y => g_X0_seenMask_L1 bN bC q nf y (nI i)) n (sna v q) (by omega) (fun nf i hi => ?_) (fun nf => ?_)
  · rw [g_X0_seenMask_L1, x0_number0 h, bd_some, go_on hn hi, x0_of0 h hi, bd_some, x0_of1 h hi, bd_some, bd_some, x4_mask, bd_some, nI_1]
    by_cases e : v i 0 = q
    · rw [if_pos e, sna, if_pos e]
    · rw [if_neg e, sna, if_neg e]
  · rw [g_X0_seenMask_L1, x0_number0 h, bd_some, go_out hn]
theorem x5_seen (h : MB n v s) (q : Int32) : g_X5_seenBy s q = some (sna v q n) := by
  have hn := h.1
  rw [g_X5_seenBy, bd_id]
  refine lpV (fun nf i y => g_X5_seenBy_L1 s q nf y (nI i)) n (sna v q) (by omega) (fun nf i hi => ?_) (fun nf => ?_)
  · rw [g_X5_seenBy_L1, x5_n h, go_on hn hi, x5_of0 h hi, bd_some, x5_of1 h hi, bd_some, bd_some, x5_mask, bd_some, nI_1, or_0]
    by_cases e : v i 0 = q
    · rw [if_pos e, sna, if_pos e]
    · rw [if_neg e, sna, if_neg e]
  · rw [g_X5_seenBy_L1, x5_n h, go_out hn]
theorem x0_lowest (h : CB n v bN bC) (q : Int32) : g_X0_lowestFieldOf bN bC q = some (loa v q n) := by
  have hn := h.1
  rw [g_X0_lowestFieldOf, bd_id]
  refine lpV (fun nf i y => g_X0_lowestFieldOf_L1 bN bC q nf y (nI i)) n (loa v q) (by omega) (fun nf i hi => ?_) (fun nf => ?_)
  · rw [g_X0_lowestFieldOf_L1, x0_number0 h, bd_some, go_on hn hi, x0_of1 h hi, bd_some, x0_of0 h hi, bd_some, nI_1, loa]
    by_cases e : v i 0 = q
    · rw [if_pos e, if_pos e]
      by_cases e2 : loa v q i = -1
      · rw [if_pos e2, if_pos e2]
      · rw [if_neg e2, if_neg e2]
        by_cases e3 : loa v q i ≤ v i 1
        · rw [if_pos e3, if_pos e3]
        · rw [if_neg e3, if_neg e3]
    · rw [if_neg e, if_neg e]
  · rw [g_X0_lowestFieldOf_L1, x0_number0 h, bd_some, go_out hn]
theorem x5_lowest (h : MB n v s) (q : Int32) : g_X5_lowestFieldOf s q = some (loa v q n) := by
  have hn := h.1
  rw [g_X5_lowestFieldOf, bd_id]
  refine lpV (fun nf i y => g_X5_lowestFieldOf_L1 s q nf y (nI i)) n (loa v q) (by omega) (fun nf i hi => ?_) (fun nf => ?_)
  · rw [g_X5_lowestFieldOf_L1, x5_n h, go_on hn hi, x5_of0 h hi, bd_some, g_X5_lowestFieldOf_J1, x5_of1 h hi, bd_some, bd_some, nI_1, loa]
    by_cases e : v i 0 = q
    · rw [if_pos e, if_pos e]
      by_cases e2 : loa v q i = -1
      · rw [if_pos e2, if_pos e2]
      · rw [if_neg e2, if_neg e2]
        by_cases e3 : loa v q i ≤ v i 1
        · rw [if_pos e3, if_pos e3]
        · rw [if_neg e3, if_neg e3]
    · rw [if_neg e, if_neg e]
  · rw [g_X5_lowestFieldOf_L1, x5_n h, go_out hn]
theorem i_2 (x : Int32) : x &&& 1 = 0 ∨ x &&& 1 = 1 := by
  obtain ⟨j, h1, h2⟩ := pk_andE x (m := 1) 1 (by decide)
  rcases (show j = 0 ∨ j = 1 by omega) with rfl | rfl
  · exact Or.inl h2
  · exact Or.inr h2
theorem x0_others (h : CB n v bN bC) (q : Int32) : g_X0_othersSeen bN bC q = some (osa v q (sna v q n) n) := by
  have hn := h.1
  rw [g_X0_othersSeen, x0_seen h, bd_some, bd_id]
  refine lpV (fun nf i y => g_X0_othersSeen_L1 bN bC q (sna v q n) nf y (nI i)) n (osa v q (sna v q n)) (by omega) (fun nf i hi => ?_) (fun nf => ?_)
  · rw [g_X0_othersSeen_L1, x0_number0 h, bd_some, go_on hn hi, x0_of0 h hi, bd_some, osa]
    by_cases e : v i 0 = q
    · rw [if_pos e, if_pos e, g_X0_othersSeen_J1, if_pos rfl, nI_1]
    · rw [if_neg e, if_neg e, g_X0_othersSeen_J1, if_neg t10, x0_of1 h hi, bd_some, nI_1]
  · rw [g_X0_othersSeen_L1, x0_number0 h, bd_some, go_out hn]
theorem x5_others (h : MB n v s) (q : Int32) : g_X5_othersSeen s q = some (osa v q (sna v q n) n) := by
  have hn := h.1
  rw [g_X5_othersSeen, bd_id]
  refine lpV (fun nf i y => g_X5_othersSeen_L1 s q nf y (nI i)) n (osa v q (sna v q n)) (by omega) (fun nf i hi => ?_) (fun nf => ?_)
  · rw [g_X5_othersSeen_L1, x5_n h, go_on hn hi, x5_of0 h hi, bd_some, x5_seen h, bd_some, x5_of1 h hi, bd_some, nI_1, osa]
    by_cases e : v i 0 = q
    · rw [if_pos e, if_pos e]
    · rw [if_neg e, if_neg e]
      rcases i_2 (sna v q n >>> (v i 1 &&& 31)) with e2 | e2
      · rw [e2, if_neg (by decide)]
      · rw [e2, if_pos rfl]
  · rw [g_X5_othersSeen_L1, x5_n h, go_out hn]
theorem x0_ordersOf (h : CB n v bN bC) (x : Int32) : g_X0_ordersOf bN bC x = some (nI (num n fun c => v c 2 = x)) := by
  have hn := h.1
  rw [g_X0_ordersOf, bd_id]
  refine lpC (fun nf i z => g_X0_ordersOf_L1 bN bC x nf z (nI i)) n _ (by omega) (fun nf i z hi => ?_) (fun nf z => ?_)
  · simp only [g_X0_ordersOf_L1, x0_number0 h, bd_some, go_on hn hi, x0_of2 h hi, nI_1, i_add0]
    by_cases e : v i 2 = x <;> simp [e]
  · simp only [g_X0_ordersOf_L1, x0_number0 h, bd_some, go_out hn]
theorem x5_ordersOf (h : MB n v s) (x : Int32) : g_X5_ordersOf s x = some (nI (num n fun c => v c 2 = x)) := by
  have hn := h.1
  rw [g_X5_ordersOf, bd_id]
  refine lpC (fun nf i z => g_X5_ordersOf_L1 s x nf z (nI i)) n _ (by omega) (fun nf i z hi => ?_) (fun nf z => ?_)
  · simp only [g_X5_ordersOf_L1, x5_n h, bd_some, go_on hn hi, x5_of2 h hi, nI_1, i_add0]
    by_cases e : v i 2 = x <;> simp [e]
  · simp only [g_X5_ordersOf_L1, x5_n h, bd_some, go_out hn]
theorem x0_armiesOf (h : CB n v bN bC) (x : Int32) : g_X0_armiesOf bN bC x = some (nI (num n fun c => v c 0 = x)) := by
  have hn := h.1
  rw [g_X0_armiesOf, bd_id]
  refine lpC (fun nf i z => g_X0_armiesOf_L1 bN bC x nf z (nI i)) n _ (by omega) (fun nf i z hi => ?_) (fun nf z => ?_)
  · simp only [g_X0_armiesOf_L1, x0_number0 h, bd_some, go_on hn hi, x0_of0 h hi, nI_1, i_add0]
    by_cases e : v i 0 = x <;> simp [e]
  · simp only [g_X0_armiesOf_L1, x0_number0 h, bd_some, go_out hn]
theorem x5_armiesOf (h : MB n v s) (x : Int32) : g_X5_armiesOf s x = some (nI (num n fun c => v c 0 = x)) := by
  have hn := h.1
  rw [g_X5_armiesOf, bd_id]
  refine lpC (fun nf i z => g_X5_armiesOf_L1 s x nf z (nI i)) n _ (by omega) (fun nf i z hi => ?_) (fun nf z => ?_)
  · simp only [g_X5_armiesOf_L1, x5_n h, bd_some, go_on hn hi, x5_of0 h hi, nI_1, i_add0]
    by_cases e : v i 0 = x <;> simp [e]
  · simp only [g_X5_armiesOf_L1, x5_n h, bd_some, go_out hn]
theorem x0_owner {bO : Nat → Int32} {f : Nat} (hf : f < 12) : g_X0_owner bO (nI f) = some (bO f) := by
  rw [g_X0_owner, if_neg (nI_pos (by omega)), past (M := 12) 12 rfl hf (by decide), rdA_n hf (by decide)]
theorem x0_centresOf (bO : Nat → Int32) (x : Int32) : g_X0_centresOf bO x = some (nI (num 12 fun f => bO f = x)) := by
  rw [g_X0_centresOf, bd_id]
  refine lpC (fun nf i z => g_X0_centresOf_L1 bO x nf z (nI i)) 12 _ (by decide) (fun nf i z hi => ?_) (fun nf z => ?_)
  · simp only [g_X0_centresOf_L1, past (M := 12) 12 rfl hi (by decide), x0_owner hi, bd_some, nI_1, i_add0]
    by_cases e : bO i = x <;> simp [e]
  · simp only [g_X0_centresOf_L1, pastE (M := 12) 12 rfl (Nat.le_refl _) (by decide)]
theorem ten_ix (k : Nat) : 10 + nI k = nI (10 + k) := nI_add 10 k
theorem x5_centresOf (s : Nat → Int32) (x : Int32) : g_X5_centresOf s x = some (nI (num 4 fun k => s (10 + k) = x)) := by
  rw [g_X5_centresOf, bd_id]
  refine lpC (fun nf i z => g_X5_centresOf_L1 s x nf z (nI i)) 4 _ (by decide) (fun nf i z hi => ?_) (fun nf z => ?_)
  · simp only [g_X5_centresOf_L1, past (M := 4) 4 rfl hi (by decide), ten_ix, r77 (10 + i) (by omega), bd_some, nI_1, i_add0]
    by_cases e : s (10 + i) = x <;> simp [e]
  · simp only [g_X5_centresOf_L1, pastE (M := 4) 4 rfl (Nat.le_refl _) (by decide)]
theorem num_mul3 (P : Nat → Prop) (h : ∀ f, f < 12 → ¬ f % 3 = 0 → ¬ P f) : num 12 P = num 4 fun k => P (3 * k) := by
  have e9 : num 12 P = num 10 P := (num_f (n := 11) (h 11 (by decide) (by decide))).trans (num_f (n := 10) (h 10 (by decide) (by decide)))
  have e6 : num 9 P = num 7 P := (num_f (n := 8) (h 8 (by decide) (by decide))).trans (num_f (n := 7) (h 7 (by decide) (by decide)))
  have e3 : num 6 P = num 4 P := (num_f (n := 5) (h 5 (by decide) (by decide))).trans (num_f (n := 4) (h 4 (by decide) (by decide)))
  have e0 : num 3 P = num 1 P := (num_f (n := 2) (h 2 (by decide) (by decide))).trans (num_f (n := 1) (h 1 (by decide) (by decide)))
  have s9 : num 10 P = num 9 P + @ite _ (P 9) (Classical.propDecidable _) 1 0 := rfl
  have s6 : num 7 P = num 6 P + @ite _ (P 6) (Classical.propDecidable _) 1 0 := rfl
  have s3 : num 4 P = num 3 P + @ite _ (P 3) (Classical.propDecidable _) 1 0 := rfl
  rw [e9, s9, e6, s6, e3, s3, e0]
  rfl
end LK
