/-! looks, told: fields, seats, counts (the rows bt to b_sshr are the kit's, pasted out of its laws) -/
def bt (x : Int32) (i : Nat) : Bool := x.toBitVec.getLsbD i
theorem b_ext {x y : Int32} (h : ∀ i, i < 32 → bt x i = bt y i) : x = y := Int32.toBitVec_inj.mp (BitVec.eq_of_getLsbD_eq (fun i hi => h i hi))
theorem b_or (x y : Int32) (i : Nat) : bt (x ||| y) i = (bt x i || bt y i) := by unfold bt; rw [Int32.toBitVec_or, BitVec.getLsbD_or]
theorem b_and (x y : Int32) (i : Nat) : bt (x &&& y) i = (bt x i && bt y i) := by unfold bt; rw [Int32.toBitVec_and, BitVec.getLsbD_and]
theorem b_xor (x y : Int32) (i : Nat) : bt (x ^^^ y) i = (bt x i ^^ bt y i) := by unfold bt; rw [Int32.toBitVec_xor, BitVec.getLsbD_xor]
theorem b_big {x : Int32} {i : Nat} (h : 32 ≤ i) : bt x i = false := BitVec.getLsbD_of_ge _ _ h
theorem b_0 (i : Nat) : bt 0 i = false := BitVec.getLsbD_zero
theorem s_l : ∀ n, n < 32 → ((nI n &&& 31).toBitVec.smod 32).toNat = n := by decide +kernel
theorem b_sshr (n : Nat) (hn : n < 32) (x : Int32) {i : Nat} (hi : i < 32) : bt (x >>> (nI n &&& 31)) i = if n + i < 32 then bt x (n + i) else bt x 31 := by
  unfold bt
  rw [Int32.toBitVec_shiftRight]
  show (x.toBitVec.sshiftRight ((nI n &&& 31).toBitVec.smod 32).toNat).getLsbD i = _
  rw [s_l n hn, BitVec.getLsbD_sshiftRight, BitVec.msb_eq_getLsbD_last]
  simp [hi]
theorem bt_1 : ∀ i, i < 32 → bt 1 i = decide (i = 0) := by decide +kernel
theorem bit_at (x : Int32) {f : Nat} (hf : f < 32) : (x >>> (nI f &&& 31)) &&& 1 = if bt x f = true then 1 else 0 := by
  apply b_ext
  intro i hi
  rw [b_and, b_sshr f hf x hi, bt_1 i hi]
  by_cases e : i = 0
  · subst e
    rw [if_pos (by omega), Nat.add_zero]
    cases bt x f <;> decide
  · rw [decide_eq_false e, Bool.and_false]
    split
    · rw [bt_1 i hi, decide_eq_false e]
    · exact (b_0 i).symm
theorem nm_bit_all : ∀ F, F < 12 → ∀ f, f < 12 → (bt ((1 <<< (nI F &&& 31)) ||| nm (nI F)) f = true ↔ (nI F = nI f ∨ ¬ nb (nI F) (nI f) = 0)) := by decide +kernel
def seeP (v : Nat → Nat → Int32) (x : Int32) (a : Nat) : Prop := v a 1 = x ∨ ¬ nb (v a 1) x = 0
def seeE (v : Nat → Nat → Int32) (x : Int32) (i : Nat) (q : Int32) : Prop := ∃ a, a < i ∧ v a 0 = q ∧ seeP v x a
noncomputable def ssa (v : Nat → Nat → Int32) (x : Int32) : Nat → Int32
  | 0 => 0
  | i + 1 => cite (seeP v x i) (ssa v x i ||| (1 <<< (v i 0 &&& 31))) (ssa v x i)
section TD
variable {n : Nat} {v : Nat → Nat → Int32} {bN bO bC s : Nat → Int32}
theorem seeE_t {x q : Int32} {i : Nat} (h : v i 0 = q) (h2 : seeP v x i) : bi (seeE v x (i + 1) q) = 1 := bi_t ⟨i, by omega, h, h2⟩
theorem seeE_f {x q : Int32} {i : Nat} (h : ¬ (v i 0 = q ∧ seeP v x i)) : bi (seeE v x (i + 1) q) = bi (seeE v x i q) := by
  refine bi_c ⟨?_, fun ⟨a, h1, h2⟩ => ⟨a, by omega, h2⟩⟩
  rintro ⟨a, h1, h2⟩
  by_cases e : a = i
  · subst e; exact absurd h2 h
  · exact ⟨a, by omega, h2⟩
theorem x0_seats (h : CB n v bN bC) (x : Int32) : g_X0_seatsSeeing bN bC x = some (ssa v x n) := by
  have hn := h.1
  rw [g_X0_seatsSeeing, bd_id]
  refine lpV (fun nf i y => g_X0_seatsSeeing_L1 bN bC x nf y (nI i)) n (ssa v x) (by omega) (fun nf i hi => ?_) (fun nf => ?_)
  · rw [g_X0_seatsSeeing_L1, x0_number0 h, bd_some, go_on hn hi, x0_of1 h hi, bd_some, bd_some, x4_nb, bd_some, ssa]
    simp only [g_X0_seatsSeeing_J1, x0_of0 h hi, bd_some, nI_1, or_0]
    by_cases e : v i 1 = x
    · rw [if_pos e, if_neg t10, cite_t (show seeP v x i from Or.inl e)]
    · rw [if_neg e]
      by_cases e2 : nb (v i 1) x = 0
      · rw [if_pos e2, if_pos trivial, cite_f (show ¬ seeP v x i from fun w => w.elim e (fun w2 => w2 e2))]
      · rw [if_neg e2, if_neg t10, cite_t (show seeP v x i from Or.inr e2)]
  · rw [g_X0_seatsSeeing_L1, x0_number0 h, bd_some, go_out hn]
/-- a field's bit of what a seat sees -/
theorem sna_bit (hA : ∀ a, a < n → ∃ F, F < 12 ∧ v a 1 = nI F) {f : Nat} (hf : f < 12) (q : Int32) : ∀ i, i ≤ n → (bt (sna v q i) f = true ↔ seeE v (nI f) i q) := by
  intro i
  induction i with
  | zero => intro _; rw [sna, b_0]; exact ⟨fun e => absurd e (by decide), fun ⟨a, h, _⟩ => by omega⟩
  | succ i ih =>
    intro hi
    have ih' := ih (by omega)
    obtain ⟨F, hF, e1⟩ := hA i (by omega)
    by_cases e : v i 0 = q
    · rw [sna, if_pos e, b_or, Bool.or_eq_true, ih', e1, nm_bit_all F hF f hf]
      constructor
      · rintro (⟨a, h1, h2⟩ | h)
        · exact ⟨a, by omega, h2⟩
        · exact ⟨i, by omega, e, by unfold seeP; rw [e1]; exact h⟩
      · rintro ⟨a, h1, h2, h3⟩
        by_cases ea : a = i
        · subst ea; refine Or.inr ?_; unfold seeP at h3; rw [e1] at h3; exact h3
        · exact Or.inl ⟨a, by omega, h2, h3⟩
    · rw [sna, if_neg e, ih']
      constructor
      · rintro ⟨a, h1, h2⟩; exact ⟨a, by omega, h2⟩
      · rintro ⟨a, h1, h2, h3⟩
        by_cases ea : a = i
        · subst ea; exact absurd h2 e
        · exact ⟨a, by omega, h2, h3⟩
theorem sna_at (hA : ∀ a, a < n → ∃ F, F < 12 ∧ v a 1 = nI F) {f : Nat} (hf : f < 12) (q : Int32) : (sna v q n >>> (nI f &&& 31)) &&& 1 = bi (seeE v (nI f) n q) := by
  rw [bit_at _ (by omega)]
  by_cases e : seeE v (nI f) n q
  · rw [if_pos ((sna_bit hA hf q n (Nat.le_refl _)).mpr e), bi_t e]
  · rw [if_neg (fun w => e ((sna_bit hA hf q n (Nat.le_refl _)).mp w)), bi_f e]
theorem bi_01 (P : Prop) : bi P = 0 ∨ bi P = 1 := by
  by_cases h : P
  · exact Or.inr (bi_t h)
  · exact Or.inl (bi_f h)
theorem ssa_sum (hA : ∀ a, a < n → ∃ q, q < 3 ∧ v a 0 = nI q) (x : Int32) : ∀ i, i ≤ n → ssa v x i = bi (seeE v x i 0) + 2 * bi (seeE v x i 1) + 4 * bi (seeE v x i 2) := by
  intro i
  induction i with
  | zero =>
    intro _
    have e : ∀ q, ¬ seeE v x 0 q := fun q ⟨a, h, _⟩ => by omega
    rw [bi_f (e 0), bi_f (e 1), bi_f (e 2), ssa]; decide
  | succ i ih =>
    intro hi
    have ih' := ih (by omega)
    obtain ⟨q, hq, e0⟩ := hA i (by omega)
    by_cases e : seeP v x i
    · rw [ssa, cite_t e, ih', e0]
      rcases (show q = 0 ∨ q = 1 ∨ q = 2 by omega) with rfl | rfl | rfl
      · rw [seeE_t (q := 0) e0 e, seeE_f (q := 1) (fun w => absurd (e0.symm.trans w.1) (by decide)), seeE_f (q := 2) (fun w => absurd (e0.symm.trans w.1) (by decide))]
        rcases bi_01 (seeE v x i 0) with h0 | h0 <;> rcases bi_01 (seeE v x i 1) with h1 | h1 <;> rcases bi_01 (seeE v x i 2) with h2 | h2 <;> rw [h0, h1, h2] <;> decide
      · rw [seeE_t (q := 1) e0 e, seeE_f (q := 0) (fun w => absurd (e0.symm.trans w.1) (by decide)), seeE_f (q := 2) (fun w => absurd (e0.symm.trans w.1) (by decide))]
        rcases bi_01 (seeE v x i 0) with h0 | h0 <;> rcases bi_01 (seeE v x i 1) with h1 | h1 <;> rcases bi_01 (seeE v x i 2) with h2 | h2 <;> rw [h0, h1, h2] <;> decide
      · rw [seeE_t (q := 2) e0 e, seeE_f (q := 0) (fun w => absurd (e0.symm.trans w.1) (by decide)), seeE_f (q := 1) (fun w => absurd (e0.symm.trans w.1) (by decide))]
        rcases bi_01 (seeE v x i 0) with h0 | h0 <;> rcases bi_01 (seeE v x i 1) with h1 | h1 <;> rcases bi_01 (seeE v x i 2) with h2 | h2 <;> rw [h0, h1, h2] <;> decide
    · rw [ssa, cite_f e, ih', seeE_f (q := 0) (fun w => e w.2), seeE_f (q := 1) (fun w => e w.2), seeE_f (q := 2) (fun w => e w.2)]
theorem cent_all : ∀ f, f < 12 → (g_X4_isCentre (nI f)).bind (fun v2 => (if v2 = 0 then some (0 : Int32) else some 1)) = if f % 3 = 0 then some 1 else some 0 := by decide +kernel
theorem x_field {K f j : Nat} (hok : okS K n s) (hE : eqB n bN bO bC s) (hf : f < 12) (hj : j < 5) : ∃ r, g_X4_fieldNumber bN bC bO (nI f) (nI j) = some r ∧ g_X5_toldOfField s (nI f) (nI j) = some r := by
  have hS := hok.sb hE
  have e3 : nI f - nI f / 3 * 3 = nI (f % 3) := pk_rem (d := 3) (by omega) (by decide) (by decide)
  have d3 : nI f / 3 = nI (f / 3) := pk_div (d := 3) (by omega) (by decide) (by decide)
  have m3 : f % 3 < 3 := Nat.mod_lt _ (by decide)
  have z3 : nI (f % 3) = 0 ↔ f % 3 = 0 := nI_eq (b := 0) (by omega) (by decide)
  rcases (show j = 0 ∨ j = 1 ∨ j = 2 ∨ j = 3 ∨ j = 4 by omega) with rfl | rfl | rfl | rfl | rfl
  · refine ⟨fi n fun c => av s c 1 = nI f, ?_, ?_⟩
    · rw [g_X4_fieldNumber, if_pos (show nI 0 = 0 from rfl), x0_armyOn hS.cb, bd_some]
    · rw [g_X5_toldOfField, if_pos (show nI 0 = 0 from rfl), x5_armyOn hS.mb hok.d, bd_some]
  · refine ⟨if f % 3 = 0 then 1 else 0, ?_, ?_⟩
    · rw [g_X4_fieldNumber, if_neg (show ¬ nI 1 = 0 by decide), if_pos (show nI 1 = 1 from rfl), cent_all f hf]
      split <;> rfl
    · rw [g_X5_toldOfField, if_neg (show ¬ nI 1 = 0 by decide), if_pos (show nI 1 = 1 from rfl), e3]
      by_cases e : f % 3 = 0
      · rw [if_pos (z3.mpr e), if_pos e]
      · rw [if_neg (fun w => e (z3.mp w)), if_neg e]
  · refine ⟨bO f, ?_, ?_⟩
    · rw [g_X4_fieldNumber, if_neg (show ¬ nI 2 = 0 by decide), if_neg (show ¬ nI 2 = 1 by decide), if_pos (show nI 2 = 2 from rfl), x0_owner hf, bd_some]
    · rw [g_X5_toldOfField, if_neg (show ¬ nI 2 = 0 by decide), if_neg (show ¬ nI 2 = 1 by decide), if_pos (show nI 2 = 2 from rfl), e3, d3, ten_ix, r77 (10 + f / 3) (by omega)]
      by_cases e : f % 3 = 0
      · rw [if_pos (z3.mpr e), ← hE.2.2.1 (f / 3) (by omega), show 3 * (f / 3) = f by omega]
      · rw [if_neg (fun w => e (z3.mp w)), hE.2.2.2.1 f hf e]
  · have hA1 : ∀ a, a < n → ∃ F, F < 12 ∧ av s a 1 = nI F := fun a ha => by
      obtain ⟨_, F, h1, h2, _⟩ := hok.arm ha
      exact ⟨F, h1, h2⟩
    have hA0 : ∀ a, a < n → ∃ q, q < 3 ∧ av s a 0 = nI q := fun a ha => (hok.arm ha).1
    refine ⟨ssa (av s) (nI f) n, ?_, ?_⟩
    · rw [g_X4_fieldNumber, if_neg (show ¬ nI 3 = 0 by decide), if_neg (show ¬ nI 3 = 1 by decide), if_neg (show ¬ nI 3 = 2 by decide), if_pos (show nI 3 = 3 from rfl), x0_seats hS.cb, bd_some]
    · rw [g_X5_toldOfField, if_neg (show ¬ nI 3 = 0 by decide), if_neg (show ¬ nI 3 = 1 by decide), if_neg (show ¬ nI 3 = 2 by decide), if_pos (show nI 3 = 3 from rfl), x5_seen hS.mb, bd_some, x5_seen hS.mb, bd_some, x5_seen hS.mb, bd_some, sna_at hA1 hf, sna_at hA1 hf, sna_at hA1 hf, ssa_sum hA0 (nI f) n (Nat.le_refl _)]
  · refine ⟨nm (nI f), ?_, ?_⟩
    · rw [g_X4_fieldNumber, if_neg (show ¬ nI 4 = 0 by decide), if_neg (show ¬ nI 4 = 1 by decide), if_neg (show ¬ nI 4 = 2 by decide), if_neg (show ¬ nI 4 = 3 by decide), x4_mask, bd_some]
    · rw [g_X5_toldOfField, if_neg (show ¬ nI 4 = 0 by decide), if_neg (show ¬ nI 4 = 1 by decide), if_neg (show ¬ nI 4 = 2 by decide), if_neg (show ¬ nI 4 = 3 by decide), x5_mask, bd_some]
theorem own_num (hE : eqB n bN bO bC s) {q : Nat} (hq : q < 3) : num 12 (fun f => bO f = nI q) = num 4 (fun k => s (10 + k) = nI q) := by
  rw [num_mul3 _ (fun f hf h3 w => nI_m1 (a := q) (by omega) (w.symm.trans (hE.2.2.2.1 f hf h3)))]
  exact num_c (fun k hk => by rw [hE.2.2.1 k hk])
theorem x_seat {K q j : Nat} (hok : okS K n s) (hE : eqB n bN bO bC s) (hq : q < 3) (hj : j < 5) : ∃ r, g_X4_seatNumber bN bC bO (nI q) (nI j) = some r ∧ g_X5_toldOfSeat s (nI q) (nI j) = some r := by
  have hS := hok.sb hE
  rcases (show j = 0 ∨ j = 1 ∨ j = 2 ∨ j = 3 ∨ j = 4 by omega) with rfl | rfl | rfl | rfl | rfl
  · refine ⟨nI (num n fun c => av s c 0 = nI q), ?_, ?_⟩
    · rw [g_X4_seatNumber, if_pos (show nI 0 = 0 from rfl), x0_armiesOf hS.cb, bd_some]
    · rw [g_X5_toldOfSeat, if_pos (show nI 0 = 0 from rfl), x5_armiesOf hS.mb, bd_some]
  · refine ⟨nI (num 4 fun k => s (10 + k) = nI q), ?_, ?_⟩
    · rw [g_X4_seatNumber, if_neg (show ¬ nI 1 = 0 by decide), if_pos (show nI 1 = 1 from rfl), x0_centresOf, bd_some, own_num hE hq]
    · rw [g_X5_toldOfSeat, if_neg (show ¬ nI 1 = 0 by decide), if_pos (show nI 1 = 1 from rfl), x5_centresOf, bd_some]
  · refine ⟨sna (av s) (nI q) n, ?_, ?_⟩
    · rw [g_X4_seatNumber, if_neg (show ¬ nI 2 = 0 by decide), if_neg (show ¬ nI 2 = 1 by decide), if_pos (show nI 2 = 2 from rfl), x0_seen hS.cb, bd_some]
    · rw [g_X5_toldOfSeat, if_neg (show ¬ nI 2 = 0 by decide), if_neg (show ¬ nI 2 = 1 by decide), if_pos (show nI 2 = 2 from rfl), x5_seen hS.mb, bd_some]
  · refine ⟨loa (av s) (nI q) n, ?_, ?_⟩
    · rw [g_X4_seatNumber, if_neg (show ¬ nI 3 = 0 by decide), if_neg (show ¬ nI 3 = 1 by decide), if_neg (show ¬ nI 3 = 2 by decide), if_pos (show nI 3 = 3 from rfl), x0_lowest hS.cb, bd_some]
    · rw [g_X5_toldOfSeat, if_neg (show ¬ nI 3 = 0 by decide), if_neg (show ¬ nI 3 = 1 by decide), if_neg (show ¬ nI 3 = 2 by decide), if_pos (show nI 3 = 3 from rfl), x5_lowest hS.mb, bd_some]
  · refine ⟨osa (av s) (nI q) (sna (av s) (nI q) n) n, ?_, ?_⟩
    · rw [g_X4_seatNumber, if_neg (show ¬ nI 4 = 0 by decide), if_neg (show ¬ nI 4 = 1 by decide), if_neg (show ¬ nI 4 = 2 by decide), if_neg (show ¬ nI 4 = 3 by decide), x0_others hS.cb, bd_some]
    · rw [g_X5_toldOfSeat, if_neg (show ¬ nI 4 = 0 by decide), if_neg (show ¬ nI 4 = 1 by decide), if_neg (show ¬ nI 4 = 2 by decide), if_neg (show ¬ nI 4 = 3 by decide), x5_others hS.mb, bd_some]
theorem x_count {K m j : Nat} (hok : okS K n s) (hE : eqB n bN bO bC s) (hj : j < 13) : ∃ r, g_X4_countNumber (nI m) bN bC (nI j) = some r ∧ g_X5_counted (nI m) s (nI j) = some r := by
  have hS := hok.sb hE
  rcases (show j = 0 ∨ j = 1 ∨ j = 2 ∨ j = 3 ∨ j = 4 ∨ j = 5 ∨ j = 6 ∨ j = 7 ∨ j = 8 ∨ j = 9 ∨ j = 10 ∨ j = 11 ∨ j = 12 by omega) with rfl | rfl | rfl | rfl | rfl | rfl | rfl | rfl | rfl | rfl | rfl | rfl | rfl
  · refine ⟨s 9, ?_, ?_⟩
    · rw [g_X4_countNumber, past (M := 10) 10 rfl (show 0 < 10 by decide) (by decide), x0_number (show 0 < 10 by decide), bd_some]
      exact congrArg some (hE.1)
    · rw [g_X5_counted, if_pos (show nI 0 = 0 from rfl), r77_9]
  · refine ⟨s 0, ?_, ?_⟩
    · rw [g_X4_countNumber, past (M := 10) 10 rfl (show 1 < 10 by decide) (by decide), x0_number (show 1 < 10 by decide), bd_some]
      exact congrArg some (hE.2.1 0 (by decide))
    · rw [g_X5_counted, if_neg (show ¬ nI 1 = 0 by decide), if_pos (show nI 1 = 1 from rfl), r77_0]
  · refine ⟨s 1, ?_, ?_⟩
    · rw [g_X4_countNumber, past (M := 10) 10 rfl (show 2 < 10 by decide) (by decide), x0_number (show 2 < 10 by decide), bd_some]
      exact congrArg some (hE.2.1 1 (by decide))
    · rw [g_X5_counted, if_neg (show ¬ nI 2 = 0 by decide), if_neg (show ¬ nI 2 = 1 by decide), if_pos (show nI 2 = 2 from rfl), r77_1]
  · refine ⟨s 2, ?_, ?_⟩
    · rw [g_X4_countNumber, past (M := 10) 10 rfl (show 3 < 10 by decide) (by decide), x0_number (show 3 < 10 by decide), bd_some]
      exact congrArg some (hE.2.1 2 (by decide))
    · rw [g_X5_counted, if_neg (show ¬ nI 3 = 0 by decide), if_neg (show ¬ nI 3 = 1 by decide), if_neg (show ¬ nI 3 = 2 by decide), if_pos (show nI 3 = 3 from rfl), show (2 + nI 3) - 3 = nI 2 by decide, r77 2 (by decide)]
  · refine ⟨s 3, ?_, ?_⟩
    · rw [g_X4_countNumber, past (M := 10) 10 rfl (show 4 < 10 by decide) (by decide), x0_number (show 4 < 10 by decide), bd_some]
      exact congrArg some (hE.2.1 3 (by decide))
    · rw [g_X5_counted, if_neg (show ¬ nI 4 = 0 by decide), if_neg (show ¬ nI 4 = 1 by decide), if_neg (show ¬ nI 4 = 2 by decide), if_neg (show ¬ nI 4 = 3 by decide), if_pos (show nI 4 = 4 from rfl), show (2 + nI 4) - 3 = nI 3 by decide, r77 3 (by decide)]
  · refine ⟨s 4, ?_, ?_⟩
    · rw [g_X4_countNumber, past (M := 10) 10 rfl (show 5 < 10 by decide) (by decide), x0_number (show 5 < 10 by decide), bd_some]
      exact congrArg some (hE.2.1 4 (by decide))
    · rw [g_X5_counted, if_neg (show ¬ nI 5 = 0 by decide), if_neg (show ¬ nI 5 = 1 by decide), if_neg (show ¬ nI 5 = 2 by decide), if_neg (show ¬ nI 5 = 3 by decide), if_neg (show ¬ nI 5 = 4 by decide), if_pos (show nI 5 = 5 from rfl), show (2 + nI 5) - 3 = nI 4 by decide, r77 4 (by decide)]
  · refine ⟨s 5, ?_, ?_⟩
    · rw [g_X4_countNumber, past (M := 10) 10 rfl (show 6 < 10 by decide) (by decide), x0_number (show 6 < 10 by decide), bd_some]
      exact congrArg some (hE.2.1 5 (by decide))
    · rw [g_X5_counted, if_neg (show ¬ nI 6 = 0 by decide), if_neg (show ¬ nI 6 = 1 by decide), if_neg (show ¬ nI 6 = 2 by decide), if_neg (show ¬ nI 6 = 3 by decide), if_neg (show ¬ nI 6 = 4 by decide), if_neg (show ¬ nI 6 = 5 by decide), if_pos (show nI 6 = 6 from rfl), show (2 + nI 6) - 3 = nI 5 by decide, r77 5 (by decide)]
  · refine ⟨s 6, ?_, ?_⟩
    · rw [g_X4_countNumber, past (M := 10) 10 rfl (show 7 < 10 by decide) (by decide), x0_number (show 7 < 10 by decide), bd_some]
      exact congrArg some (hE.2.1 6 (by decide))
    · rw [g_X5_counted, if_neg (show ¬ nI 7 = 0 by decide), if_neg (show ¬ nI 7 = 1 by decide), if_neg (show ¬ nI 7 = 2 by decide), if_neg (show ¬ nI 7 = 3 by decide), if_neg (show ¬ nI 7 = 4 by decide), if_neg (show ¬ nI 7 = 5 by decide), if_neg (show ¬ nI 7 = 6 by decide), if_pos (show nI 7 = 7 from rfl), show (2 + nI 7) - 3 = nI 6 by decide, r77 6 (by decide)]
  · refine ⟨s 7, ?_, ?_⟩
    · rw [g_X4_countNumber, past (M := 10) 10 rfl (show 8 < 10 by decide) (by decide), x0_number (show 8 < 10 by decide), bd_some]
      exact congrArg some (hE.2.1 7 (by decide))
    · rw [g_X5_counted, if_neg (show ¬ nI 8 = 0 by decide), if_neg (show ¬ nI 8 = 1 by decide), if_neg (show ¬ nI 8 = 2 by decide), if_neg (show ¬ nI 8 = 3 by decide), if_neg (show ¬ nI 8 = 4 by decide), if_neg (show ¬ nI 8 = 5 by decide), if_neg (show ¬ nI 8 = 6 by decide), if_neg (show ¬ nI 8 = 7 by decide), if_pos (show nI 8 = 8 from rfl), show (2 + nI 8) - 3 = nI 7 by decide, r77 7 (by decide)]
  · refine ⟨s 8, ?_, ?_⟩
    · rw [g_X4_countNumber, past (M := 10) 10 rfl (show 9 < 10 by decide) (by decide), x0_number (show 9 < 10 by decide), bd_some]
      exact congrArg some (hE.2.1 8 (by decide))
    · rw [g_X5_counted, if_neg (show ¬ nI 9 = 0 by decide), if_neg (show ¬ nI 9 = 1 by decide), if_neg (show ¬ nI 9 = 2 by decide), if_neg (show ¬ nI 9 = 3 by decide), if_neg (show ¬ nI 9 = 4 by decide), if_neg (show ¬ nI 9 = 5 by decide), if_neg (show ¬ nI 9 = 6 by decide), if_neg (show ¬ nI 9 = 7 by decide), if_neg (show ¬ nI 9 = 8 by decide), if_pos (show nI 9 = 9 from rfl), show (2 + nI 9) - 3 = nI 8 by decide, r77 8 (by decide)]
  · refine ⟨nI (num n fun c => av s c 2 = 1), ?_, ?_⟩
    · rw [g_X4_countNumber, if_pos (show (10 : Int32) ≤ nI 10 by decide), if_pos (show nI 10 = 10 from rfl), x0_ordersOf hS.cb, bd_some]
    · rw [g_X5_counted, if_neg (show ¬ nI 10 = 0 by decide), if_neg (show ¬ nI 10 = 1 by decide), if_neg (show ¬ nI 10 = 2 by decide), if_neg (show ¬ nI 10 = 3 by decide), if_neg (show ¬ nI 10 = 4 by decide), if_neg (show ¬ nI 10 = 5 by decide), if_neg (show ¬ nI 10 = 6 by decide), if_neg (show ¬ nI 10 = 7 by decide), if_neg (show ¬ nI 10 = 8 by decide), if_neg (show ¬ nI 10 = 9 by decide), if_pos (show nI 10 = 10 from rfl), x5_ordersOf hS.mb, bd_some]
  · refine ⟨nI (num n fun c => av s c 2 = 2), ?_, ?_⟩
    · rw [g_X4_countNumber, if_pos (show (10 : Int32) ≤ nI 11 by decide), if_neg (show ¬ nI 11 = 10 by decide), if_pos (show nI 11 = 11 from rfl), x0_ordersOf hS.cb, bd_some]
    · rw [g_X5_counted, if_neg (show ¬ nI 11 = 0 by decide), if_neg (show ¬ nI 11 = 1 by decide), if_neg (show ¬ nI 11 = 2 by decide), if_neg (show ¬ nI 11 = 3 by decide), if_neg (show ¬ nI 11 = 4 by decide), if_neg (show ¬ nI 11 = 5 by decide), if_neg (show ¬ nI 11 = 6 by decide), if_neg (show ¬ nI 11 = 7 by decide), if_neg (show ¬ nI 11 = 8 by decide), if_neg (show ¬ nI 11 = 9 by decide), if_neg (show ¬ nI 11 = 10 by decide), if_pos (show nI 11 = 11 from rfl), x5_ordersOf hS.mb, bd_some]
  · refine ⟨nI m, ?_, ?_⟩
    · rw [g_X4_countNumber, if_pos (show (10 : Int32) ≤ nI 12 by decide), if_neg (show ¬ nI 12 = 10 by decide), if_neg (show ¬ nI 12 = 11 by decide), g_X1_size, bd_some]
    · rw [g_X5_counted, if_neg (show ¬ nI 12 = 0 by decide), if_neg (show ¬ nI 12 = 1 by decide), if_neg (show ¬ nI 12 = 2 by decide), if_neg (show ¬ nI 12 = 3 by decide), if_neg (show ¬ nI 12 = 4 by decide), if_neg (show ¬ nI 12 = 5 by decide), if_neg (show ¬ nI 12 = 6 by decide), if_neg (show ¬ nI 12 = 7 by decide), if_neg (show ¬ nI 12 = 8 by decide), if_neg (show ¬ nI 12 = 9 by decide), if_neg (show ¬ nI 12 = 10 by decide), if_neg (show ¬ nI 12 = 11 by decide), if_pos (show nI 12 = 12 from rfl)]
end TD
