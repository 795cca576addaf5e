/-! what the class's board and the reference's row show: n armies, their numbers v -/
def CB (n : Nat) (v : Nat → Nat → Int32) (bN bC : Nat → Int32) : Prop := n ≤ 9 ∧ bN 0 = nI n ∧ ∀ a w, a < n → w < 7 → bC (7 * a + w) = v a w
def MB (n : Nat) (v : Nat → Nat → Int32) (s : Nat → Int32) : Prop := n ≤ 9 ∧ s 9 = nI n ∧ ∀ a w, a < n → w < 7 → s (14 + 7 * a + w) = v a w
def dist (n : Nat) (v : Nat → Nat → Int32) : Prop := ∀ a b, a < n → b < n → v a 1 = v b 1 → a = b
theorem ibi {α : Type} {P : Prop} {a b : α} : (if bi P = 0 then a else b) = @ite _ P (Classical.propDecidable P) b a := by
  by_cases h : P
  · rw [bi_t h, if_neg (by decide), if_pos h]
  · rw [bi_f h, if_pos rfl, if_neg h]
theorem past {α : Type} {a b : α} {M : Int32} {k : Nat} (N : Nat) (hM : M = nI N) (h : k < N) (hN : N < 2 ^ 31) : (if M ≤ nI k then a else b) = b := by subst hM; exact if_neg (nI_ge h hN)
theorem pastE {α : Type} {a b : α} {M : Int32} {k : Nat} (N : Nat) (hM : M = nI N) (h : N ≤ k) (hk : k < 2 ^ 31) : (if M ≤ nI k then a else b) = a := by subst hM; exact if_pos (nI_le h hk)
section RD
variable {n : Nat} {v : Nat → Nat → Int32} {bN bC s : Nat → Int32}
theorem x0_number {k : Nat} (hk : k < 10) : g_X0_number bN (nI k) = some (bN k) := by
  unfold g_X0_number
  rw [if_neg (nI_pos (by omega)), past (M := 10) 10 rfl hk (by decide), rdA_n hk (by omega)]
theorem x0_number0 (h : CB n v bN bC) : g_X0_number bN 0 = some (nI n) := (x0_number (k := 0) (by decide)).trans (by rw [h.2.1])
theorem cell_ix (a w : Nat) : nI a * 7 + nI w = nI (7 * a + w) := by
  rw [show (7 : Int32) = nI 7 from rfl, pk_mul, nI_add, Nat.mul_comm]
theorem x0_cell {a w : Nat} (h : 7 * a + w < 63) : g_X0_of bC (nI a) (nI w) = some (bC (7 * a + w)) := by
  unfold g_X0_of
  rw [cell_ix, if_neg (nI_pos (by omega)), past (M := 63) 63 rfl h (by decide), rdA_n h (by omega)]
theorem x0_put {a w : Nat} {x : Int32} (h : 7 * a + w < 63) : g_X0_put bC (nI a) (nI w) x = some (upd bC (7 * a + w) x) := by
  unfold g_X0_put
  rw [cell_ix, if_neg (nI_pos (by omega)), past (M := 63) 63 rfl h (by decide), wrA_n h (by omega)]
theorem x0_of {a w : Nat} (h : CB n v bN bC) (ha : a < n) (hw : w < 7) : g_X0_of bC (nI a) (nI w) = some (v a w) := by
  have := h.1
  rw [x0_cell (by omega), h.2.2 a w ha hw]
theorem x0_of0 {a : Nat} (h : CB n v bN bC) (ha : a < n) : g_X0_of bC (nI a) 0 = some (v a 0) := x0_of (w := 0) h ha (by decide)
theorem x0_of1 {a : Nat} (h : CB n v bN bC) (ha : a < n) : g_X0_of bC (nI a) 1 = some (v a 1) := x0_of (w := 1) h ha (by decide)
theorem x0_of2 {a : Nat} (h : CB n v bN bC) (ha : a < n) : g_X0_of bC (nI a) 2 = some (v a 2) := x0_of (w := 2) h ha (by decide)
theorem x0_of3 {a : Nat} (h : CB n v bN bC) (ha : a < n) : g_X0_of bC (nI a) 3 = some (v a 3) := x0_of (w := 3) h ha (by decide)
theorem x0_of4 {a : Nat} (h : CB n v bN bC) (ha : a < n) : g_X0_of bC (nI a) 4 = some (v a 4) := x0_of (w := 4) h ha (by decide)
theorem x0_of5 {a : Nat} (h : CB n v bN bC) (ha : a < n) : g_X0_of bC (nI a) 5 = some (v a 5) := x0_of (w := 5) h ha (by decide)
theorem x0_of6 {a : Nat} (h : CB n v bN bC) (ha : a < n) : g_X0_of bC (nI a) 6 = some (v a 6) := x0_of (w := 6) h ha (by decide)
theorem at_ix (a w : Nat) : 14 + 7 * nI a + nI w = nI (14 + 7 * a + w) := by
  rw [show (7 : Int32) = nI 7 from rfl, show (14 : Int32) = nI 14 from rfl, pk_mul, nI_add, nI_add]
theorem x5_cell {a w : Nat} (h : 14 + 7 * a + w < 77) : g_X5_of s (nI a) (nI w) = some (s (14 + 7 * a + w)) := by
  unfold g_X5_of g_X5_at
  rw [bd_some, at_ix, rdA_n h (by omega)]
theorem x5_of {a w : Nat} (h : MB n v s) (ha : a < n) (hw : w < 7) : g_X5_of s (nI a) (nI w) = some (v a w) := by
  have := h.1
  rw [x5_cell (by omega), h.2.2 a w ha hw]
theorem x5_of0 {a : Nat} (h : MB n v s) (ha : a < n) : g_X5_of s (nI a) 0 = some (v a 0) := x5_of (w := 0) h ha (by decide)
theorem x5_of1 {a : Nat} (h : MB n v s) (ha : a < n) : g_X5_of s (nI a) 1 = some (v a 1) := x5_of (w := 1) h ha (by decide)
theorem x5_of2 {a : Nat} (h : MB n v s) (ha : a < n) : g_X5_of s (nI a) 2 = some (v a 2) := x5_of (w := 2) h ha (by decide)
theorem x5_of3 {a : Nat} (h : MB n v s) (ha : a < n) : g_X5_of s (nI a) 3 = some (v a 3) := x5_of (w := 3) h ha (by decide)
theorem x5_of4 {a : Nat} (h : MB n v s) (ha : a < n) : g_X5_of s (nI a) 4 = some (v a 4) := x5_of (w := 4) h ha (by decide)
theorem x5_of5 {a : Nat} (h : MB n v s) (ha : a < n) : g_X5_of s (nI a) 5 = some (v a 5) := x5_of (w := 5) h ha (by decide)
theorem x5_of6 {a : Nat} (h : MB n v s) (ha : a < n) : g_X5_of s (nI a) 6 = some (v a 6) := x5_of (w := 6) h ha (by decide)
theorem x5_n {α : Type} {k : Int32 → Option α} (h : MB n v s) : rdA s 77 9 k = k (nI n) := (rdA_n (j := 9) (by decide) (by decide)).trans (by rw [h.2.1])
theorem x4_entry {f : Nat → Int32} {a : Nat} (ha : a < 9) : g_X4_entry 9 f (nI a) = some (f a) := by
  unfold g_X4_entry
  rw [if_neg (nI_pos (by omega)), past (M := Int32.ofNat 9) 9 rfl ha (by decide), rdA_n ha (by omega)]
theorem x4_enterN {N : Nat} {f : Nat → Int32} {a : Nat} {x : Int32} (hN : N < 2 ^ 31) (ha : a < N) : g_X4_enter N f (nI a) x = some (upd f a x) := by
  unfold g_X4_enter
  rw [if_neg (nI_pos (by omega)), past (M := Int32.ofNat N) N rfl ha hN, wrA_n ha hN]
theorem x4_enter {f : Nat → Int32} {a : Nat} {x : Int32} (ha : a < 9) : g_X4_enter 9 f (nI a) x = some (upd f a x) := x4_enterN (by decide) ha
theorem go_on {α : Type} {i : Nat} {a b : α} (hn : n ≤ 9) (hi : i < n) : (if nI n ≤ nI i then a else b) = b := if_neg (nI_ge hi (by omega))
theorem go_out {α : Type} {a b : α} (hn : n ≤ 9) : (if nI n ≤ nI n then a else b) = a := if_pos (nI_le (Nat.le_refl _) (by omega))
theorem x0_armyOn (h : CB n v bN bC) (x : Int32) : g_X0_armyOn bN bC x = some (fi n fun a => v a 1 = x) := by
  have hn := h.1
  refine lpI (fun nf i => g_X0_armyOn_L1 bN bC x nf (nI i)) n (fun a => v a 1 = x) (by omega) (fun nf i hi => ?_) (fun nf => ?_)
  · by_cases e : v i 1 = x
    · exact Or.inl ⟨e, by rw [g_X0_armyOn_L1, x0_number0 h, bd_some, go_on hn hi, x0_of1 h hi, bd_some, if_pos e]⟩
    · exact Or.inr ⟨e, by rw [g_X0_armyOn_L1, x0_number0 h, bd_some, go_on hn hi, x0_of1 h hi, bd_some, if_neg e, nI_1]⟩
  · rw [g_X0_armyOn_L1, x0_number0 h, bd_some, go_out hn]
theorem x5_armyOn (h : MB n v s) (hd : dist n v) (x : Int32) : g_X5_armyOn s x = some (fi n fun a => v a 1 = x) := by
  have hn := h.1
  rw [g_X5_armyOn, bd_id]
  refine lpL (fun nf i y => g_X5_armyOn_L1 s x nf y (nI i)) n (fun a => v a 1 = x) (by omega) (fun a b ha hb e1 e2 => hd a b ha hb (e1.trans e2.symm)) (fun nf i y hi => ?_) (fun nf y => ?_)
  · by_cases e : v i 1 = x
    · exact Or.inl ⟨e, by rw [g_X5_armyOn_L1, x5_n h, go_on hn hi, x5_of1 h hi, bd_some, if_pos e, nI_1]⟩
    · exact Or.inr ⟨e, by rw [g_X5_armyOn_L1, x5_n h, go_on hn hi, x5_of1 h hi, bd_some, if_neg e, nI_1]⟩
  · rw [g_X5_armyOn_L1, x5_n h, go_out hn]
theorem x2_moves {a : Nat} (h : CB n v bN bC) (ha : a < n) : g_X2_moves bC (nI a) = some (bi (v a 2 = 1)) := by
  rw [g_X2_moves, x0_of2 h ha, bd_some]
  by_cases e : v a 2 = 1
  · rw [if_pos e, bi_t e]
  · rw [if_neg e, bi_f e]
theorem x5_moves {a : Nat} (h : MB n v s) (ha : a < n) : g_X5_moves s (nI a) = some (bi (v a 2 = 1)) := by
  rw [g_X5_moves, x5_of2 h ha, bd_some]
  by_cases e : v a 2 = 1
  · rw [if_pos e, bi_t e]
  · rw [if_neg e, bi_f e]
theorem x5_movesTo {a : Nat} {x : Int32} (h : MB n v s) (ha : a < n) : g_X5_movesTo s (nI a) x = some (bi (v a 2 = 1 ∧ v a 3 = x)) := by
  rw [g_X5_movesTo, x5_moves h ha, bd_some, ibi, x5_of3 h ha, bd_some]
  by_cases e : v a 2 = 1
  · rw [if_pos e]
    by_cases e3 : v a 3 = x
    · rw [if_pos e3, bi_t ⟨e, e3⟩]
    · rw [if_neg e3, bi_f (fun q => e3 q.2)]
  · rw [if_neg e, bi_f (fun q => e q.1)]
end RD
