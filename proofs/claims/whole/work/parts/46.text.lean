/-! the text: the class's automaton beside the reference's reader -/
noncomputable def dl (x c : Int32) : Int32 := (g_X3_stateBehind x c).getD 0
theorem x3_sb (x c : Int32) : g_X3_stateBehind x c = some (dl x c) := by
  have : ∃ z, g_X3_stateBehind x c = some z := by
    have d : ∀ a b e : Int32, ∃ z, g_X3_stateBehindDigit a b e = some z := fun a b e => by
      unfold g_X3_stateBehindDigit g_X3_isDigit
      by_cases h1 : a < 48
      · rw [if_pos h1, bd_some, if_pos rfl]; exact ⟨_, rfl⟩
      · rw [if_neg h1]
        by_cases h2 : 57 < a
        · rw [if_pos h2, bd_some, if_pos rfl]; exact ⟨_, rfl⟩
        · rw [if_neg h2, bd_some, if_neg t10]
          split <;> exact ⟨_, rfl⟩
    obtain ⟨z1, e1⟩ := d c 3 4
    obtain ⟨z2, e2⟩ := d c 6 7
    unfold g_X3_stateBehind g_X3_stateBehindLetter g_X3_stateBehindDash g_X3_stateBehindPart
    rw [e1, e2, bd_some, bd_some]
    repeat' split
    all_goals exact ⟨_, rfl⟩
  obtain ⟨z, hz⟩ := this
  unfold dl; rw [hz]; rfl
theorem dl_err (c : Int32) : dl (-1) c = -1 := by
  unfold dl
  rw [g_X3_stateBehind, if_neg (show ¬ (-1 : Int32) = 0 by decide), if_neg (show ¬ (-1 : Int32) = 1 by decide), if_neg (show ¬ (-1 : Int32) = 2 by decide), if_neg (show ¬ (-1 : Int32) = 3 by decide), if_neg (show ¬ (-1 : Int32) = 4 by decide), if_neg (show ¬ (-1 : Int32) = 5 by decide), if_neg (show ¬ (-1 : Int32) = 6 by decide), if_neg (show ¬ (-1 : Int32) = 7 by decide)]
  rfl
theorem tx_0 : ∀ c, c < 127 → (48 ≤ c ∧ c ≤ 56 ∧ g_X5_in (nI c) 48 56 = some 1 ∧ dl 0 (nI c) = 1) ∨ (g_X5_in (nI c) 48 56 = some 0 ∧ dl 0 (nI c) = -1) := by decide +kernel
theorem tx_1 : ∀ c, c < 127 → (c = 104 ∧ dl 1 (nI c) = 7) ∨ (c = 109 ∧ dl 1 (nI c) = 5) ∨ (c = 115 ∧ dl 1 (nI c) = 2) ∨ (c ≠ 104 ∧ c ≠ 109 ∧ c ≠ 115 ∧ dl 1 (nI c) = -1) := by decide +kernel
theorem tx_f : ∀ c, c < 127 → (48 ≤ c ∧ c ≤ 57 ∧ g_X5_in (nI c) 48 57 = some 1 ∧ (c = 49 → dl 2 (nI c) = 3 ∧ dl 5 (nI c) = 6) ∧ (c ≠ 49 → dl 2 (nI c) = 4 ∧ dl 5 (nI c) = 7)) ∨ (g_X5_in (nI c) 48 57 = some 0 ∧ dl 2 (nI c) = -1 ∧ dl 5 (nI c) = -1) := by decide +kernel
theorem tx_o : ∀ c, c < 127 → (48 ≤ c ∧ c ≤ 49 ∧ g_X5_in (nI c) 48 49 = some 1 ∧ dl 3 (nI c) = 4 ∧ dl 6 (nI c) = 7) ∨ (c ≠ 48 ∧ c ≠ 49 ∧ g_X5_in (nI c) 48 49 = some 0 ∧ (c ≠ 45 → dl 3 (nI c) = -1) ∧ (c ≠ 59 → dl 6 (nI c) = -1)) := by decide +kernel
theorem tx_d : ∀ c, c < 127 → (c = 45 ∧ g_X5_in (nI c) 45 45 = some 1 ∧ dl 3 (nI c) = 5 ∧ dl 4 (nI c) = 5) ∨ (c ≠ 45 ∧ g_X5_in (nI c) 45 45 = some 0 ∧ dl 4 (nI c) = -1) := by decide +kernel
theorem tx_p : ∀ c, c < 127 → (c = 59 ∧ g_X5_in (nI c) 59 59 = some 1 ∧ dl 6 (nI c) = 0 ∧ dl 7 (nI c) = 0) ∨ (c ≠ 59 ∧ g_X5_in (nI c) 59 59 = some 0 ∧ dl 7 (nI c) = -1) := by decide +kernel
noncomputable def qs (t : Nat → Int32) : Nat → Int32
  | 0 => 0
  | i + 1 => dl (qs t i) (t i)
def okT (m : Nat) (t : Nat → Int32) : Prop := m ≤ 60 ∧ ∀ j, j < m → ∃ c, c < 127 ∧ 33 ≤ c ∧ t j = nI c
section TX
variable {m : Nat} {t codes s : Nat → Int32}
theorem qs_err {i : Nat} (h : qs t i = -1) : ∀ j, i ≤ j → qs t j = -1 := by
  intro j hj
  obtain ⟨d, rfl⟩ : ∃ d, j = i + d := ⟨j - i, by omega⟩
  clear hj
  induction d with
  | zero => exact h
  | succ d ih => show dl (qs t (i + d)) (t (i + d)) = -1; rw [ih, dl_err]
theorem x3_code {i : Nat} (hm : m ≤ 60) (hc : ∀ j, j < m → codes j = t j) (hi : i < m) : g_X3_codeAt (nI m) codes (nI i) = some (t i) := by
  have e : g_X4_entry 60 codes (nI i) = some (codes i) := by
    unfold g_X4_entry
    rw [if_neg (nI_pos (by omega)), past (M := Int32.ofNat 60) 60 rfl (by omega) (by decide), rdA_n (by omega) (by omega)]
  rw [g_X3_codeAt, if_neg (nI_ge hi (by omega)), e, bd_some, hc i hi]
/-- the first error, where it is known -/
theorem x3_error (hm : m ≤ 60) (hc : ∀ j, j < m → codes j = t j) {e : Nat} (he : e ≤ m) (h1 : ¬ qs t e = -1) (h2 : e < m → qs t (e + 1) = -1) : g_X3_errorIndex (nI m) codes = some (nI e) := by
  have hne : ∀ i, i ≤ e → ¬ qs t i = -1 := fun i hi w => h1 (qs_err w e hi)
  have hrun := lpR (fun nf i => g_X3_errorIndex_L1 (nI m) codes nf (qs t i) (nI i)) e (FU - e) 0 (fun nf j _ hj => by
    rw [g_X3_errorIndex_L1, if_neg (nI_ge (show j < m by omega) (by omega)), x3_code hm hc (by omega), bd_some, x3_sb, bd_some, if_neg (show ¬ dl (qs t j) (t j) = -1 from hne (j + 1) (by omega)), nI_1]
    rfl)
  rw [show FU - e + e = FU by show 5000 - e + e = 5000; omega, Nat.zero_add] at hrun
  rw [g_X3_errorIndex]
  refine hrun.trans ?_
  rw [show FU - e = (4999 - e) + 1 by show 5000 - e = _; omega, g_X3_errorIndex_L1]
  by_cases q : e < m
  · rw [if_neg (nI_ge q (by omega)), x3_code hm hc q, bd_some, x3_sb, bd_some, if_pos (show dl (qs t e) (t e) = -1 from h2 q)]
  · rw [if_pos (nI_le (by omega) (by omega)), show e = m by omega]
theorem x3_complete (hm : m ≤ 60) (hc : ∀ j, j < m → codes j = t j) : g_X3_isComplete (nI m) codes = some (bi (qs t m = 7 ∨ qs t m = 6)) := by
  have h := lpV (fun nf i y => g_X3_isComplete_L1 (nI m) codes nf y (nI i)) m (qs t) (by omega) (fun nf i hi => by
    rw [g_X3_isComplete_L1, if_neg (nI_ge hi (by omega)), x3_code hm hc hi, bd_some, x3_sb, bd_some, nI_1]; rfl)
    (fun nf => by rw [g_X3_isComplete_L1, if_pos (nI_le (Nat.le_refl _) (by omega))])
  rw [g_X3_isComplete, show g_X3_isComplete_L1 (nI m) codes FU 0 0 = some (qs t m) from h, bd_some]
  by_cases e7 : qs t m = 7
  · rw [if_pos e7, bi_t (Or.inl e7)]
  · rw [if_neg e7]
    by_cases e6 : qs t m = 6
    · rw [if_pos e6, bi_t (Or.inr e6)]
    · rw [if_neg e6, bi_f (fun w => w.elim e7 e6)]
/-! the reference's reader -/
theorem r60 {α : Type} {f : Nat → Int32} {k : Int32 → Option α} (j : Nat) (h : j < 60) : rdA f 60 (nI j) k = k (f j) := rdA_n h (by decide)
theorem x5_takes_in {p : Nat} (hm : m ≤ 60) (hp : p < m) {lo hi : Int32} (h : g_X5_in (t p) lo hi = some 1) : g_X5_takes (nI m) (nI p) 0 t lo hi = some (t p - lo, nI (p + 1), 0) := by
  rw [g_X5_takes, if_neg (nI_ge hp (by omega)), r60 p (by omega), g_X5_takes_J1, if_pos rfl, h, bd_some, if_neg t10, g_X5_takes_J2, if_pos rfl, nI_1]
theorem x5_takes_out {p : Nat} (hm : m ≤ 60) (hp : p < m) {lo hi : Int32} (h : g_X5_in (t p) lo hi = some 0) : g_X5_takes (nI m) (nI p) 0 t lo hi = some (t p - lo, nI p, 1) := by
  rw [g_X5_takes, if_neg (nI_ge hp (by omega)), r60 p (by omega), g_X5_takes_J1, if_pos rfl, h, bd_some, if_pos rfl, g_X5_takes_J2, if_neg t10, i_add0]
theorem x5_takes_end (hm : m ≤ 60) {lo hi : Int32} (h : g_X5_in 0 lo hi = some 0) : g_X5_takes (nI m) (nI m) 0 t lo hi = some (0 - lo, nI m, 1) := by
  rw [g_X5_takes, if_pos (nI_le (Nat.le_refl _) (by omega)), g_X5_takes_J1, if_pos rfl, h, bd_some, if_pos rfl, g_X5_takes_J2, if_neg t10, i_add0]
theorem x5_takes_bad {p : Nat} (hm : m ≤ 60) (hp : p ≤ m) (lo hi : Int32) : ∃ v, g_X5_takes (nI m) (nI p) 1 t lo hi = some (v, nI p, 1) := by
  by_cases e : p < m
  · exact ⟨t p - lo, by rw [g_X5_takes, if_neg (nI_ge e (by omega)), r60 p (by omega), g_X5_takes_J1, if_neg t10, g_X5_takes_J2, if_neg t10, i_add0]⟩
  · exact ⟨0 - lo, by rw [g_X5_takes, if_pos (nI_le (by omega) (by omega)), g_X5_takes_J1, if_neg t10, g_X5_takes_J2, if_neg t10, i_add0]⟩
theorem x5_field_bad {p : Nat} (hm : m ≤ 60) (hp : p ≤ m) : ∃ v, g_X5_takesField (nI m) (nI p) 1 t = some (v, nI p, 1) := by
  obtain ⟨v, h⟩ := x5_takes_bad (t := t) hm hp 48 57
  refine ⟨v, ?_⟩
  rw [g_X5_takesField, h, b3_some]
  by_cases e : v = 1
  · rw [if_pos e, g_X5_isNext, if_neg t10, bd_some, if_pos rfl]
  · rw [if_neg e]
/-- a field's number, from p to p' -/
def Fld (m : Nat) (t : Nat → Int32) (p p' k : Nat) : Prop := p' ≤ m ∧ ((p' = p + 1 ∧ k ≤ 9 ∧ t p = nI (48 + k) ∧ (k = 1 → p' < m → ¬ t p' = 48 ∧ ¬ t p' = 49)) ∨ (p' = p + 2 ∧ ∃ e, e ≤ 1 ∧ k = 10 + e ∧ t p = 49 ∧ t (p + 1) = nI (48 + e)))
theorem code_sub {c : Nat} (k : Nat) (h : k ≤ c) : nI c - nI k = nI (c - k) := pk_sub h
/-- the reference takes a field: state b before it, o behind a one that may go on, r behind the others -/
theorem x5_field {p : Nat} (hT : okT m t) (hp : p ≤ m) {b o r : Int32} (hb : (b = 2 ∧ o = 3 ∧ r = 4) ∨ (b = 5 ∧ o = 6 ∧ r = 7)) (hq : qs t p = b) :
    (∃ p' k, g_X5_takesField (nI m) (nI p) 0 t = some (nI k, nI p', 0) ∧ k < 12 ∧ p < p' ∧ Fld m t p p' k ∧ (qs t p' = r ∨ (qs t p' = o ∧ (p' < m → ¬ t p' = 48 ∧ ¬ t p' = 49)))) ∨
    (∃ v, g_X5_takesField (nI m) (nI p) 0 t = some (v, nI p, 1) ∧ (p < m → qs t (p + 1) = -1)) := by
  obtain ⟨hm, hc⟩ := hT
  by_cases e : p < m
  · obtain ⟨c, c1, c2, c3⟩ := hc p e
    have hq1 : qs t (p + 1) = dl b (nI c) := by show dl (qs t p) (t p) = _; rw [hq, c3]
    rcases tx_f c c1 with ⟨a1, a2, a3, a4, a5⟩ | ⟨a3, a4, a5⟩
    · have hin := x5_takes_in (t := t) hm e (show g_X5_in (t p) 48 57 = some 1 by rw [c3]; exact a3)
      rw [c3, show nI c - 48 = nI (c - 48) from code_sub 48 a1] at hin
      by_cases c49 : c = 49
      · have hqo : qs t (p + 1) = o := by rw [hq1]; rcases hb with ⟨rfl, rfl, rfl⟩ | ⟨rfl, rfl, rfl⟩; exact (a4 c49).1; exact (a4 c49).2
        subst c49
        by_cases e2 : p + 1 < m
        · obtain ⟨d, d1, d2, d3⟩ := hc (p + 1) e2
          have hq2 : qs t (p + 2) = dl o (nI d) := by show dl (qs t (p + 1)) (t (p + 1)) = _; rw [hqo, d3]
          rcases tx_o d d1 with ⟨b1, b2, b3, b4, b5⟩ | ⟨b1, b2, b3, b4, b5⟩
          · have hin2 := x5_takes_in (t := t) hm e2 (show g_X5_in (t (p + 1)) 48 49 = some 1 by rw [d3]; exact b3)
            rw [d3, show nI d - 48 = nI (d - 48) from code_sub 48 b1] at hin2
            refine Or.inl ⟨p + 2, 10 + (d - 48), ?_, by omega, by omega, ⟨by omega, Or.inr ⟨rfl, d - 48, by omega, rfl, c3, by rw [d3, show 48 + (d - 48) = d by omega]⟩⟩, Or.inl ?_⟩
            · rw [g_X5_takesField, hin, b3_some, if_pos (show nI (49 - 48) = 1 from rfl), g_X5_isNext, if_pos rfl, if_neg (nI_ge e2 (by omega)), r60 (p + 1) (by omega), d3, b3, bd_some, if_neg t10, bd_some, if_neg t10, hin2, b3_some, ten_ix]
            · rw [hq2]; rcases hb with ⟨rfl, rfl, rfl⟩ | ⟨rfl, rfl, rfl⟩; exact b4; exact b5
          · have n48 : ¬ t (p + 1) = 48 := by rw [d3]; exact fun w => b1 ((nI_eq (b := 48) (by omega) (by decide)).mp w)
            have n49 : ¬ t (p + 1) = 49 := by rw [d3]; exact fun w => b2 ((nI_eq (b := 49) (by omega) (by decide)).mp w)
            refine Or.inl ⟨p + 1, 1, ?_, by decide, by omega, ⟨by omega, Or.inl ⟨rfl, by decide, c3, fun _ _ => ⟨n48, n49⟩⟩⟩, Or.inr ⟨hqo, fun _ => ⟨n48, n49⟩⟩⟩
            rw [g_X5_takesField, hin, b3_some, if_pos (show nI (49 - 48) = 1 from rfl), g_X5_isNext, if_pos rfl, if_neg (nI_ge e2 (by omega)), r60 (p + 1) (by omega), d3, b3, bd_some, if_pos rfl, bd_some, if_pos rfl]
        · refine Or.inl ⟨p + 1, 1, ?_, by decide, by omega, ⟨by omega, Or.inl ⟨rfl, by decide, c3, fun _ w => absurd w e2⟩⟩, Or.inr ⟨hqo, fun w => absurd w e2⟩⟩
          rw [g_X5_takesField, hin, b3_some, if_pos (show nI (49 - 48) = 1 from rfl), g_X5_isNext, if_pos rfl, if_pos (nI_le (by omega) (by omega)), bd_some, if_pos rfl]
      · refine Or.inl ⟨p + 1, c - 48, ?_, by omega, by omega, ⟨by omega, Or.inl ⟨rfl, by omega, by rw [c3, show 48 + (c - 48) = c by omega], fun w => by omega⟩⟩, Or.inl ?_⟩
        · rw [g_X5_takesField, hin, b3_some, if_neg (show ¬ nI (c - 48) = 1 from fun w => by have := (nI_eq (b := 1) (by omega) (by decide)).mp w; omega)]
        · rw [hq1]; rcases hb with ⟨rfl, rfl, rfl⟩ | ⟨rfl, rfl, rfl⟩; exact (a5 c49).1; exact (a5 c49).2
    · have hout := x5_takes_out (t := t) hm e (show g_X5_in (t p) 48 57 = some 0 by rw [c3]; exact a3)
      refine Or.inr ⟨t p - 48, ?_, fun _ => ?_⟩
      · rw [g_X5_takesField, hout, b3_some, g_X5_isNext, if_neg t10, bd_some, if_pos rfl]
        split <;> rfl
      · rw [hq1]; rcases hb with ⟨rfl, rfl, rfl⟩ | ⟨rfl, rfl, rfl⟩; exact a4; exact a5
  · obtain rfl : p = m := by omega
    have hend := x5_takes_end (t := t) hm (show g_X5_in 0 48 57 = some 0 by decide)
    refine Or.inr ⟨0 - 48, ?_, fun w => absurd w e⟩
    rw [g_X5_takesField, hend, b3_some, if_neg (by decide)]
/-- a part of the orders, from p to p': letter, army, from, to -/
def PS (m : Nat) (t : Nat → Int32) (p p' A : Nat) (x f g : Int32) : Prop := p + 1 < m ∧ p + 1 < p' ∧ p' ≤ m ∧ A ≤ 8 ∧ t p = nI (48 + A) ∧ t (p + 1) = x ∧
  ((x = 104 ∧ p' = p + 2 ∧ f = -1 ∧ g = -1) ∨ (x = 109 ∧ f = -1 ∧ ∃ k, k < 12 ∧ g = nI k ∧ Fld m t (p + 2) p' k) ∨ (x = 115 ∧ ∃ p1 j k, j < 12 ∧ k < 12 ∧ f = nI j ∧ g = nI k ∧ Fld m t (p + 2) p1 j ∧ p + 2 < p1 ∧ p1 < m ∧ t p1 = 45 ∧ p1 + 1 < p' ∧ Fld m t (p1 + 1) p' k))
theorem bad_J5 {p : Nat} (hm : m ≤ 60) (hp : p ≤ m) (v5 v3 v11 v17 : Int32) : g_X5_part_J5 v5 0 s v3 v11 (nI m) t v17 (nI p) 1 = some (0, nI p, 1, s) := by
  have k6 : ∀ z, g_X5_part_J6 0 s v5 v3 v11 z (nI p) 1 = some (0, nI p, 1, s) := fun z => by
    rw [g_X5_part_J6, if_pos rfl, g_X5_part_J7, if_pos rfl, g_X5_part_J10, if_pos rfl, g_X5_part_J8, if_pos rfl]
  rw [g_X5_part_J5]
  obtain ⟨v, h⟩ := x5_field_bad (t := t) hm hp
  by_cases e : v5 = 104
  · rw [if_pos e, k6]
  · rw [if_neg e, h, b3_some, k6]
theorem bad_J4 {p : Nat} (hm : m ≤ 60) (hp : p ≤ m) (v5 v3 v11 : Int32) : g_X5_part_J4 v5 (nI m) t 0 s v3 v11 (nI p) 1 = some (0, nI p, 1, s) := by
  obtain ⟨v, h⟩ := x5_takes_bad (t := t) hm hp 45 45
  rw [g_X5_part_J4]
  by_cases e : v5 = 115
  · rw [if_pos e, h, b3_some, bad_J5 hm hp]
  · rw [if_neg e, bad_J5 hm hp]
theorem bad_J2 {p : Nat} (hm : m ≤ 60) (hp : p ≤ m) (v5 v3 : Int32) : g_X5_part_J2 v5 (nI m) (nI p) t 0 s v3 1 = some (0, nI p, 1, s) := by
  obtain ⟨v, h⟩ := x5_field_bad (t := t) hm hp
  rw [g_X5_part_J2, if_neg t10, g_X5_part_J3, i_add0]
  by_cases e : v5 = 115
  · rw [if_pos e, h, b3_some, bad_J4 hm hp]
  · rw [if_neg e, bad_J4 hm hp]
theorem k6_0 (v5 v3 v11 v23 v24 v25 : Int32) : g_X5_part_J6 0 s v5 v3 v11 v23 v24 v25 = some (0, v24, v25, s) := by
  rw [g_X5_part_J6, if_pos rfl, g_X5_part_J7, if_pos rfl, g_X5_part_J10, if_pos rfl, g_X5_part_J8, if_pos rfl]
/-- where the reference stands behind a part that is no good -/
def Bd (m : Nat) (t : Nat → Int32) (p' : Nat) : Prop := p' ≤ m ∧ ¬ qs t p' = -1 ∧ ¬ qs t p' = 6 ∧ ¬ qs t p' = 7 ∧ (p' < m → qs t (p' + 1) = -1)
def En (m : Nat) (t : Nat → Int32) (p' : Nat) : Prop := qs t p' = 7 ∨ (qs t p' = 6 ∧ (p' < m → ¬ t p' = 48 ∧ ¬ t p' = 49))
theorem Bd_of {p' : Nat} {x : Int32} (hp : p' ≤ m) (hq : qs t p' = x) (h1 : ¬ x = -1) (h6 : ¬ x = 6) (h7 : ¬ x = 7) (h : p' < m → qs t (p' + 1) = -1) : Bd m t p' := by
  subst hq; exact ⟨hp, h1, h6, h7, h⟩
set_option maxHeartbeats 4000000 in
theorem x5_part {p : Nat} (hT : okT m t) (hp : p ≤ m) (hq : qs t p = 0) :
    (∃ p' A x f g, PS m t p p' A x f g ∧ En m t p' ∧ ∀ i, g_X5_part (nI m) (nI p) 0 t s i = g_X5_part_J6 i s x (nI A) f g (nI p') 0) ∨
    (∃ p', p ≤ p' ∧ g_X5_part (nI m) (nI p) 0 t s 0 = some (0, nI p', 1, s) ∧ Bd m t p') := by
  have hT0 := hT
  obtain ⟨hm, hc⟩ := hT
  by_cases e : p < m
  · obtain ⟨c, c1, c2, c3⟩ := hc p e
    have hq1 : qs t (p + 1) = dl 0 (nI c) := by show dl (qs t p) (t p) = _; rw [hq, c3]
    rcases tx_0 c c1 with ⟨a1, a2, a3, a4⟩ | ⟨a3, a4⟩
    · rw [a4] at hq1
      have hin := x5_takes_in (t := t) hm e (show g_X5_in (t p) 48 56 = some 1 by rw [c3]; exact a3)
      rw [c3, show nI c - 48 = nI (c - 48) from code_sub 48 a1] at hin
      have hA : t p = nI (48 + (c - 48)) := by rw [c3, show 48 + (c - 48) = c by omega]
      by_cases e1 : p + 1 < m
      · obtain ⟨d, d1, d2, d3⟩ := hc (p + 1) e1
        have hq2 : qs t (p + 2) = dl 1 (nI d) := by show dl (qs t (p + 1)) (t (p + 1)) = _; rw [hq1, d3]
        have start : ∀ i, g_X5_part (nI m) (nI p) 0 t s i = g_X5_part_J1 0 (nI m) (nI (p + 1)) t i s (nI (c - 48)) (nI d) := fun i => by
          rw [g_X5_part, hin, b3_some, if_neg (nI_ge e1 (by omega)), r60 (p + 1) (by omega), d3]
        have nx : nI (p + 1) + 1 = nI (p + 2) := nI_1 (p + 1)
        rcases tx_1 d d1 with ⟨rfl, b⟩ | ⟨rfl, b⟩ | ⟨rfl, b⟩ | ⟨n1, n2, n3, b⟩
        · rw [b] at hq2
          refine Or.inl ⟨p + 2, c - 48, 104, -1, -1, ⟨e1, by omega, by omega, by omega, hA, d3, Or.inl ⟨rfl, rfl, rfl, rfl⟩⟩, Or.inl hq2, fun i => ?_⟩
          rw [start i, g_X5_part_J1, if_pos rfl, if_pos (show nI 104 = 104 from rfl), g_X5_part_J2, if_pos rfl, g_X5_part_J3, if_neg (show ¬ nI 104 = 115 by decide), g_X5_part_J4, if_neg (show ¬ nI 104 = 115 by decide), g_X5_part_J5, if_pos (show nI 104 = 104 from rfl), nx]
          rfl
        · rw [b] at hq2
          have mid : ∀ i, g_X5_part (nI m) (nI p) 0 t s i = b3 (g_X5_takesField (nI m) (nI (p + 2)) 0 t) fun v22 v20 v21 => g_X5_part_J6 i s (nI 109) (nI (c - 48)) (-1) v22 v20 v21 := fun i => by
            rw [start i, g_X5_part_J1, if_pos rfl, if_neg (show ¬ nI 109 = 104 by decide), if_pos (show nI 109 = 109 from rfl), g_X5_part_J2, if_pos rfl, g_X5_part_J3, if_neg (show ¬ nI 109 = 115 by decide), g_X5_part_J4, if_neg (show ¬ nI 109 = 115 by decide), g_X5_part_J5, if_neg (show ¬ nI 109 = 104 by decide), nx]
          rcases x5_field (p := p + 2) hT0 (by omega) (Or.inr ⟨rfl, rfl, rfl⟩) hq2 with ⟨p', k, f1, f2, f3, f4, f5⟩ | ⟨v, f1, f2⟩
          · refine Or.inl ⟨p', c - 48, 109, -1, nI k, ⟨e1, by omega, f4.1, by omega, hA, d3, Or.inr (Or.inl ⟨rfl, rfl, k, f2, rfl, f4⟩)⟩, f5, fun i => ?_⟩
            rw [mid i, f1, b3_some]; rfl
          · refine Or.inr ⟨p + 2, by omega, ?_, Bd_of (by omega) hq2 (by decide) (by decide) (by decide) f2⟩
            rw [mid 0, f1, b3_some, k6_0]
        · rw [b] at hq2
          have mid : ∀ i, g_X5_part (nI m) (nI p) 0 t s i = b3 (g_X5_takesField (nI m) (nI (p + 2)) 0 t) fun v10 v8 v9 => g_X5_part_J4 (nI 115) (nI m) t i s (nI (c - 48)) v10 v8 v9 := fun i => by
            rw [start i, g_X5_part_J1, if_pos rfl, if_neg (show ¬ nI 115 = 104 by decide), if_neg (show ¬ nI 115 = 109 by decide), if_pos (show nI 115 = 115 from rfl), g_X5_part_J2, if_pos rfl, g_X5_part_J3, if_pos (show nI 115 = 115 from rfl), nx]
          rcases x5_field (p := p + 2) hT0 (by omega) (Or.inl ⟨rfl, rfl, rfl⟩) hq2 with ⟨p1, j, f1, f2, f3, f4, f5⟩ | ⟨v, f1, f2⟩
          · have hqp : ¬ qs t p1 = -1 ∧ ¬ qs t p1 = 6 ∧ ¬ qs t p1 = 7 := by
              rcases f5 with w | ⟨w, _⟩ <;> rw [w] <;> decide
            by_cases e2 : p1 < m
            · obtain ⟨h, h1, h2, h3⟩ := hc p1 e2
              have hq3 : qs t (p1 + 1) = dl (qs t p1) (nI h) := by show dl (qs t p1) (t p1) = _; rw [h3]
              rcases tx_d h h1 with ⟨rfl, g1, g2, g3⟩ | ⟨g0, g1, g2⟩
              · have hq5 : qs t (p1 + 1) = 5 := by
                  rw [hq3]; rcases f5 with w | ⟨w, _⟩ <;> rw [w]
                  · exact g3
                  · exact g2
                have hin3 := x5_takes_in (t := t) hm e2 (show g_X5_in (t p1) 45 45 = some 1 by rw [h3]; exact g1)
                rcases x5_field (p := p1 + 1) hT0 (by omega) (Or.inr ⟨rfl, rfl, rfl⟩) hq5 with ⟨p', k, k1, k2, k3, k4, k5⟩ | ⟨v, k1, k2⟩
                · refine Or.inl ⟨p', c - 48, 115, nI j, nI k, ⟨e1, by omega, k4.1, by omega, hA, d3, Or.inr (Or.inr ⟨rfl, p1, j, k, f2, k2, rfl, rfl, f4, f3, e2, h3, k3, k4⟩)⟩, k5, fun i => ?_⟩
                  rw [mid i, f1, b3_some, g_X5_part_J4, if_pos (show nI 115 = 115 from rfl), hin3, b3_some, g_X5_part_J5, if_neg (show ¬ nI 115 = 104 by decide), k1, b3_some]; rfl
                · refine Or.inr ⟨p1 + 1, by omega, ?_, Bd_of (by omega) hq5 (by decide) (by decide) (by decide) k2⟩
                  rw [mid 0, f1, b3_some, g_X5_part_J4, if_pos (show nI 115 = 115 from rfl), hin3, b3_some, g_X5_part_J5, if_neg (show ¬ nI 115 = 104 by decide), k1, b3_some, k6_0]
              · have hout3 := x5_takes_out (t := t) hm e2 (show g_X5_in (t p1) 45 45 = some 0 by rw [h3]; exact g1)
                refine Or.inr ⟨p1, by omega, ?_, ⟨by omega, hqp.1, hqp.2.1, hqp.2.2, fun _ => ?_⟩⟩
                · rw [mid 0, f1, b3_some, g_X5_part_J4, if_pos (show nI 115 = 115 from rfl), hout3, b3_some, bad_J5 hm (by omega)]
                · rw [hq3]
                  rcases f5 with w | ⟨w, w2⟩ <;> rw [w]
                  · exact g2
                  · obtain ⟨w3, w4⟩ := w2 e2
                    rcases tx_o h h1 with ⟨y1, y2, _⟩ | ⟨_, _, _, y4, _⟩
                    · exfalso
                      rcases (show h = 48 ∨ h = 49 by omega) with rfl | rfl
                      · exact w3 h3
                      · exact w4 h3
                    · exact y4 g0
            · have hp1 := f4.1
              obtain rfl : p1 = m := by omega
              have hend3 := x5_takes_end (t := t) hm (show g_X5_in 0 45 45 = some 0 by decide)
              refine Or.inr ⟨p1, by omega, ?_, ⟨Nat.le_refl _, hqp.1, hqp.2.1, hqp.2.2, fun w => absurd w e2⟩⟩
              rw [mid 0, f1, b3_some, g_X5_part_J4, if_pos (show nI 115 = 115 from rfl), hend3, b3_some, bad_J5 hm (Nat.le_refl _)]
          · refine Or.inr ⟨p + 2, by omega, ?_, Bd_of (by omega) hq2 (by decide) (by decide) (by decide) f2⟩
            rw [mid 0, f1, b3_some, bad_J4 hm (by omega)]
        · rw [b] at hq2
          refine Or.inr ⟨p + 1, by omega, ?_, Bd_of (by omega) hq1 (by decide) (by decide) (by decide) (fun _ => hq2)⟩
          rw [start 0, g_X5_part_J1, if_pos rfl, if_neg (show ¬ nI d = 104 from fun w => n1 ((nI_eq (b := 104) (by omega) (by decide)).mp w)), if_neg (show ¬ nI d = 109 from fun w => n2 ((nI_eq (b := 109) (by omega) (by decide)).mp w)), if_neg (show ¬ nI d = 115 from fun w => n3 ((nI_eq (b := 115) (by omega) (by decide)).mp w)), bad_J2 hm (by omega)]
      · refine Or.inr ⟨p + 1, by omega, ?_, Bd_of (by omega) hq1 (by decide) (by decide) (by decide) (fun w => absurd w e1)⟩
        rw [g_X5_part, hin, b3_some, if_pos (nI_le (by omega) (by omega)), g_X5_part_J1, if_pos rfl, if_neg (by decide), if_neg (by decide), if_neg (by decide), bad_J2 hm (by omega)]
    · rw [a4] at hq1
      have hout := x5_takes_out (t := t) hm e (show g_X5_in (t p) 48 56 = some 0 by rw [c3]; exact a3)
      refine Or.inr ⟨p, Nat.le_refl _, ?_, Bd_of hp hq (by decide) (by decide) (by decide) (fun _ => hq1)⟩
      rw [g_X5_part, hout, b3_some, if_neg (nI_ge e (by omega)), r60 p (by omega), g_X5_part_J1, if_neg t10, bad_J2 hm hp]
  · obtain rfl : p = m := by omega
    have hend := x5_takes_end (t := t) hm (show g_X5_in 0 48 56 = some 0 by decide)
    refine Or.inr ⟨p, Nat.le_refl _, ?_, Bd_of hp hq (by decide) (by decide) (by decide) (fun w => absurd w e)⟩
    rw [g_X5_part, hend, b3_some, if_pos (nI_le (Nat.le_refl _) (by omega)), g_X5_part_J1, if_neg t10, bad_J2 hm hp]
/-- behind a part: the end of the text, a semicolon, or an error -/
theorem En_next {p : Nat} (hT : okT m t) (hE : En m t p) (hp : p < m) : (t p = 59 ∧ qs t (p + 1) = 0 ∧ g_X5_takes (nI m) (nI p) 0 t 59 59 = some (0, nI (p + 1), 0)) ∨ (¬ t p = 59 ∧ qs t (p + 1) = -1 ∧ ∃ v, g_X5_takes (nI m) (nI p) 0 t 59 59 = some (v, nI p, 1)) := by
  obtain ⟨hm, hc⟩ := hT
  obtain ⟨c, c1, c2, c3⟩ := hc p hp
  have hq1 : qs t (p + 1) = dl (qs t p) (nI c) := by show dl (qs t p) (t p) = _; rw [c3]
  rcases tx_p c c1 with ⟨rfl, a1, a2, a3⟩ | ⟨a0, a1, a2⟩
  · refine Or.inl ⟨c3, ?_, ?_⟩
    · rw [hq1]; rcases hE with w | ⟨w, _⟩ <;> rw [w]
      · exact a3
      · exact a2
    · rw [x5_takes_in hm hp (by rw [c3]; exact a1), c3]; rfl
  · refine Or.inr ⟨fun w => a0 ((nI_eq (b := 59) (by omega) (by decide)).mp (c3.symm.trans w)), ?_, _, x5_takes_out hm hp (by rw [c3]; exact a1)⟩
    rw [hq1]; rcases hE with w | ⟨w, w2⟩ <;> rw [w]
    · exact a2
    · obtain ⟨w3, w4⟩ := w2 hp
      rcases tx_o c c1 with ⟨y1, y2, _⟩ | ⟨_, _, _, _, y5⟩
      · exfalso
        rcases (show c = 48 ∨ c = 49 by omega) with rfl | rfl
        · exact w3 c3
        · exact w4 c3
      · exact y5 a0
/-- the reference reads without giving -/
theorem x5_reads0 (hT : okT m t) : ∀ (d nf p : Nat) (v1 : Int32), m - p < d → d ≤ nf → p ≤ m → qs t p = 0 → ∃ v p' w, g_X5_reads_L1 (nI m) t 0 (nf + 1) v1 1 0 (nI p) s = some (v, w, nI p', s) ∧ p' ≤ m ∧ ¬ qs t p' = -1 ∧ ((w = 0 ∧ p' = m ∧ (qs t m = 7 ∨ qs t m = 6)) ∨ (w = 1 ∧ (p' < m → qs t (p' + 1) = -1) ∧ (p' = m → ¬ (qs t m = 7 ∨ qs t m = 6)))) := by
  intro d
  induction d with
  | zero => intro nf p v1 h; omega
  | succ d ih =>
    intro nf p v1 hd hnf hp hq
    have hm := hT.1
    obtain ⟨nf, rfl⟩ : ∃ k, nf = k + 1 := ⟨nf - 1, by omega⟩
    have bk0 : ∀ v w q, g_X5_reads_L1 (nI m) t 0 (nf + 1) v 0 w q s = some (v, w, q, s) := fun v w q => by rw [g_X5_reads_L1, if_pos rfl]
    rcases x5_part (s := s) hT hp hq with ⟨p', A, x, f, g, hPS, hEn, hpt⟩ | ⟨p', hpp, hpt, hB⟩
    · have hpt0 := hpt 0
      rw [k6_0] at hpt0
      have hqe : qs t p' = 7 ∨ qs t p' = 6 := hEn.imp id (fun w => w.1)
      have hqn : ¬ qs t p' = -1 := by rcases hqe with w | w <;> rw [w] <;> decide
      by_cases e : p' < m
      · rcases En_next hT hEn e with ⟨a1, a2, a3⟩ | ⟨a1, a2, v, a3⟩
        · obtain ⟨v, p'', w, k1, k2⟩ := ih nf (p' + 1) (v1 + 0) (by have := hPS.2.1; omega) (by omega) (by omega) a2
          refine ⟨v, p'', w, ?_, k2⟩
          rw [g_X5_reads_L1, if_neg t10, hpt0, b4_some, if_pos rfl, g_X5_reads_J1, if_pos rfl, if_neg (nI_ge e (by omega)), g_X5_reads_J2, if_neg t10, a3, b3_some, if_pos rfl]
          exact k1
        · refine ⟨v1 + 0, p', 1, ?_, hPS.2.2.1, hqn, Or.inr ⟨rfl, fun _ => a2, fun w => by omega⟩⟩
          rw [g_X5_reads_L1, if_neg t10, hpt0, b4_some, if_pos rfl, g_X5_reads_J1, if_pos rfl, if_neg (nI_ge e (by omega)), g_X5_reads_J2, if_neg t10, a3, b3_some, if_neg t10, bk0]
      · have em : p' = m := by have := hPS.2.2.1; omega
        subst em
        refine ⟨v1 + 0, p', 0, ?_, Nat.le_refl _, hqn, Or.inl ⟨rfl, rfl, hqe⟩⟩
        rw [g_X5_reads_L1, if_neg t10, hpt0, b4_some, if_pos rfl, g_X5_reads_J1, if_pos rfl, if_pos (nI_le (Nat.le_refl _) (by omega)), g_X5_reads_J2, if_pos rfl, bk0]
    · refine ⟨v1 + 0, p', 1, ?_, hB.1, hB.2.1, Or.inr ⟨rfl, hB.2.2.2.2, fun w => by subst w; exact fun z => z.elim hB.2.2.2.1 hB.2.2.1⟩⟩
      rw [g_X5_reads_L1, if_neg t10, hpt, b4_some, if_pos rfl, g_X5_reads_J1, if_neg t10, g_X5_reads_J2, if_pos rfl, bk0]
theorem x5_reads00 (hT : okT m t) (pos wr : Int32) : ∃ v p' w, g_X5_reads (nI m) pos wr t s 0 = some (v, nI p', w, s) ∧ p' ≤ m ∧ ¬ qs t p' = -1 ∧ ((w = 0 ∧ p' = m ∧ (qs t m = 7 ∨ qs t m = 6)) ∨ (w = 1 ∧ (p' < m → qs t (p' + 1) = -1) ∧ (p' = m → ¬ (qs t m = 7 ∨ qs t m = 6)))) := by
  obtain ⟨v, p', w, h1, h2⟩ := x5_reads0 (s := s) hT 4999 4999 0 0 (by have := hT.1; omega) (Nat.le_refl _) (Nat.zero_le _) rfl
  refine ⟨v, p', w, ?_, h2⟩
  rw [g_X5_reads, show g_X5_reads_L1 (nI m) t 0 FU 0 1 0 0 s = some (v, w, nI p', s) from h1]; rfl
end TX
theorem RT_ok {codes text : Nat → Int32} {len tl : Int32} (h : RT codes len text tl) : ∃ m, okT m text ∧ len = nI m ∧ tl = nI m ∧ ∀ j, j < m → codes j = text j := by
  obtain ⟨m, hm, h1, h2, hc⟩ := h
  exact ⟨m, ⟨hm, fun j hj => by
    obtain ⟨_, c, c1, c2, c3⟩ := hc j hj
    exact ⟨c, by omega, c1, c3⟩⟩, h1, h2, fun j hj => (hc j hj).1⟩
theorem pu_firstError : PU_firstError := by
  intro K has bN bO bC old sav hN hO hC sN sO sC len codes th kept sm tl pos wr s snap ss text hK hR
  have hR1 := pu_skip _ _ _ _ _ _ _ _ _ _ _ _ _ _ _ _ _ _ _ _ _ _ hR
  obtain ⟨_, _, _, hT⟩ := hR
  obtain ⟨m, hK2, rfl, rfl, hc⟩ := RT_ok hT
  obtain ⟨v, p', w, h1, h2, h3, h4⟩ := x5_reads00 (s := s) hK2 pos wr
  refine ⟨nI p', 0, nI p', w, s, ?_, ?_, hR1⟩
  · rw [g_X4_firstError, x3_error hK2.1 hc h2 h3 (fun hlt => by
      rcases h4 with ⟨_, a, _⟩ | ⟨_, a, _⟩
      · omega
      · exact a hlt), bd_some]
  · rw [g_X5_firstError, h1, b4_some]
    rcases h4 with ⟨rfl, rfl, _⟩ | ⟨rfl, _⟩
    · rw [if_pos rfl]
    · rw [if_neg t10]
