/-! why a move fails: reason under a set of moves that fail already; the least closed set -/
noncomputable def cite {α : Type} (P : Prop) (a b : α) : α := @ite _ P (Classical.propDecidable P) a b
theorem cite_t {α : Type} {P : Prop} {a b : α} (h : P) : cite P a b = a := if_pos h
theorem cite_f {α : Type} {P : Prop} {a b : α} (h : ¬ P) : cite P a b = b := if_neg h
def rivP (n : Nat) (v : Nat → Nat → Int32) (a : Nat) : Prop := ∃ o, o < n ∧ ¬ o = a ∧ v o 2 = 1 ∧ v o 3 = v a 3 ∧ stN n v a ≤ stN n v o
def swpP (n : Nat) (v : Nat → Nat → Int32) (a o : Nat) : Prop := v o 2 = 1 ∧ v o 3 = v a 1 ∧ stN n v a ≤ stN n v o
noncomputable def blk (n : Nat) (v : Nat → Nat → Int32) (a o : Nat) : Int32 := if v o 0 = v a 0 then 3 else if stN n v a ≤ (if v o 2 = 1 then 1 else stN n v o) then 4 else 0
def stayP (v : Nat → Nat → Int32) (F : Nat → Prop) (o : Nat) : Prop := ¬ v o 2 = 1 ∨ F o
noncomputable def rsO (n : Nat) (v : Nat → Nat → Int32) (F : Nat → Prop) (a o : Nat) : Int32 := cite (swpP n v a o) 2 (cite (stayP v F o) (blk n v a o) 0)
noncomputable def rsT (n : Nat) (v : Nat → Nat → Int32) (F : Nat → Prop) (a : Nat) : Int32 := if (fi n fun c => v c 1 = v a 3) = -1 then 0 else rsO n v F a (fi n fun c => v c 1 = v a 3).toNatClampNeg
noncomputable def rs (n : Nat) (v : Nat → Nat → Int32) (F : Nat → Prop) (a : Nat) : Int32 := cite (rivP n v a) 1 (rsT n v F a)
def clo (n : Nat) (v : Nat → Nat → Int32) (G : Nat → Prop) : Prop := ∀ a, a < n → v a 2 = 1 → ¬ rs n v G a = 0 → G a
def Fx (n : Nat) (v : Nat → Nat → Int32) (a : Nat) : Prop := ∀ G, clo n v G → G a
noncomputable def wyS (n : Nat) (v : Nat → Nat → Int32) (a : Nat) : Int32 := cite (Fx n v a) (rs n v (Fx n v) a) 0
section RE
variable {n : Nat} {v : Nat → Nat → Int32} {bN bC s st : Nat → Int32} {a : Nat} {F G : Nat → Prop}
theorem rsT_none (e : ∀ o, o < n → ¬ v o 1 = v a 3) : rsT n v F a = 0 := by unfold rsT; rw [fi_none e, if_pos rfl]
theorem rsT_on (hn : n ≤ 9) (hd : dist n v) {o : Nat} (ho : o < n) (e : v o 1 = v a 3) : rsT n v F a = rsO n v F a o := by
  unfold rsT
  rw [fi_one ho e (fun c hc hq => hd c o hc ho (hq.trans e.symm)), if_neg (nI_m1 (by omega)), nI_clamp (by omega)]
theorem rsO_mono {o : Nat} (hFG : F o → G o) (h : ¬ rsO n v F a o = 0) : rsO n v G a o = rsO n v F a o := by
  unfold rsO at h ⊢
  by_cases e1 : swpP n v a o
  · rw [cite_t e1, cite_t e1]
  · rw [cite_f e1] at h
    rw [cite_f e1, cite_f e1]
    by_cases e2 : stayP v F o
    · rw [cite_t e2, cite_t (show stayP v G o from e2.imp id hFG)]
    · rw [cite_f e2] at h; exact absurd rfl h
theorem rs_mono (hn : n ≤ 9) (hd : dist n v) (hFG : ∀ o, o < n → F o → G o) (h : ¬ rs n v F a = 0) : rs n v G a = rs n v F a := by
  unfold rs at h ⊢
  by_cases e1 : rivP n v a
  · rw [cite_t e1, cite_t e1]
  · rw [cite_f e1] at h
    rw [cite_f e1, cite_f e1]
    rcases on_cases hn hd (v a 3) with ⟨o, ho, e, _⟩ | ⟨e, _⟩
    · rw [rsT_on hn hd ho e] at h ⊢
      rw [rsT_on hn hd ho e]
      exact rsO_mono (hFG o ho) h
    · rw [rsT_none e] at h; exact absurd rfl h
theorem rs_c (hn : n ≤ 9) (hd : dist n v) (hFG : ∀ o, o < n → (F o ↔ G o)) : rs n v F a = rs n v G a := by
  by_cases h : rs n v F a = 0
  · by_cases h2 : rs n v G a = 0
    · rw [h, h2]
    · exact rs_mono hn hd (fun o ho => (hFG o ho).mpr) h2
  · exact (rs_mono hn hd (fun o ho => (hFG o ho).mp) h).symm
theorem Fx_clo (hn : n ≤ 9) (hd : dist n v) : clo n v (Fx n v) := by
  intro a ha hm hr G hG
  exact hG a ha hm (by rw [rs_mono hn hd (fun o _ ho => ho G hG) hr]; exact hr)
theorem Fx_in (h : Fx n v a) : a < n ∧ v a 2 = 1 := h (fun a => a < n ∧ v a 2 = 1) (fun a ha hm _ => ⟨ha, hm⟩)
theorem Fx_rs (hn : n ≤ 9) (hd : dist n v) (h : Fx n v a) : ¬ rs n v (Fx n v) a = 0 :=
  (h (fun a => Fx n v a ∧ ¬ rs n v (Fx n v) a = 0) (fun a ha hm hr => by
    have e := rs_mono hn hd (F := fun a => Fx n v a ∧ ¬ rs n v (Fx n v) a = 0) (G := Fx n v) (fun o _ ho => ho.1) hr
    exact ⟨Fx_clo hn hd a ha hm (by rw [e]; exact hr), by rw [e]; exact hr⟩)).2
theorem wyS_0 (hn : n ≤ 9) (hd : dist n v) : wyS n v a = 0 ↔ ¬ Fx n v a := by
  unfold wyS
  by_cases h : Fx n v a
  · rw [cite_t h]; exact ⟨fun e => absurd e (Fx_rs hn hd h), fun e => absurd h e⟩
  · rw [cite_f h]; exact ⟨fun _ => h, fun _ => rfl⟩
theorem rs_val : rs n v F a = 0 ∨ (¬ rs n v F a ≤ 0 ∧ ¬ rs n v F a = 0) := by
  have h : rs n v F a = 0 ∨ rs n v F a = 1 ∨ rs n v F a = 2 ∨ rs n v F a = 3 ∨ rs n v F a = 4 := by
    unfold rs rsT rsO blk cite
    repeat' split
    all_goals simp
  rcases h with h | h | h | h | h <;> rw [h] <;> decide
theorem st_lt {x y : Nat} (hx : x ≤ 10) (hy : y ≤ 10) {α : Type} {p q : α} : (if nI x < nI y then p else q) = if y ≤ x then q else p := by
  by_cases h : y ≤ x
  · rw [if_pos h, if_neg (nI_nlt h (by omega))]
  · rw [if_neg h, if_pos (nI_lt (by omega) (by omega))]
theorem st_lt1 {y : Nat} (hy : y ≤ 10) {α : Type} {p q : α} : (if (1 : Int32) < nI y then p else q) = if y ≤ 1 then q else p := st_lt (x := 1) (by decide) hy
theorem x5_stays {fa : Nat → Int32} (h : MB n v s) (ha : a < n) (hf : fa a = bi (F a)) : g_X5_stays s fa (nI a) = some (bi (stayP v F a)) := by
  have hn := h.1
  rw [g_X5_stays, x5_moves h ha, bd_some, ibi, rdA_n (by omega) (by decide), hf, ibi]
  unfold stayP
  by_cases e1 : v a 2 = 1 <;> by_cases e2 : F a <;> simp [e1, e2, bi]
theorem x5_reason {fa : Nat → Int32} (h : MB n v s) (hd : dist n v) (ha : a < n) (hst : ∀ o, o < n → st o = nI (stN n v o)) (hf : ∀ o, o < n → fa o = bi (F o)) : g_X5_reason s st fa (nI a) = some (rs n v F a) := by
  have hn := h.1
  have hs : ∀ o, stN n v o ≤ 10 := fun o => Nat.le_trans (st_le n v o) (by omega)
  have r9 : ∀ {α : Type} {f : Nat → Int32} {j : Nat} {k : Int32 → Option α}, j < n → rdA f 9 (nI j) k = k (f j) := fun hj => rdA_n (by omega) (by decide)
  rw [g_X5_reason, x5_of3 h ha, bd_some]
  refine lpE (fun nf i => g_X5_reason_L1 s (v a 3) (nI a) fa st nf (nI i)) n (fun o => ¬ o = a ∧ v o 2 = 1 ∧ v o 3 = v a 3 ∧ stN n v a ≤ stN n v o) 1 (rsT n v F a) (by omega) (fun nf i hi => ?_) (fun nf => ?_)
  · simp only [g_X5_reason_L1, x5_n h, go_on hn hi, bd_some, x5_movesTo h hi, ibi, r9 hi, r9 ha, hst i hi, hst a ha, nI_1, st_lt (hs i) (hs a), nI_eq (show i < 2 ^ 31 by omega) (show a < 2 ^ 31 by omega)]
    by_cases e1 : i = a
    · simp [e1]
    · by_cases e2 : v i 2 = 1 <;> by_cases e3 : v i 3 = v a 3 <;> by_cases e0 : stN n v a ≤ stN n v i <;> simp [e1, e2, e3, e0]
  · rcases on_cases hn hd (v a 3) with ⟨o, ho, e, hfo⟩ | ⟨e, hfo⟩
    · rw [rsT_on hn hd ho e]
      have e5 : (if v o 2 = 1 then (1 : Nat) else stN n v o) ≤ 10 := by split; omega; exact hs o
      have key : g_X5_reason_J1 s fa (nI o) (nI a) st = some (cite (stayP v F o) (blk n v a o) 0) := by
        simp only [g_X5_reason_J1, x5_stays h ho (hf o ho), bd_some, ibi, x5_of0 h ho, x5_of0 h ha, x5_moves h ho, g_X5_reason_J2, r9 ho, r9 ha, hst o ho, hst a ha, st_lt (hs o) (hs a), st_lt1 (hs a)]
        unfold blk
        by_cases e2 : stayP v F o <;> by_cases e3 : v o 0 = v a 0 <;> by_cases e4 : v o 2 = 1 <;> simp [e2, e3, e4, cite]
        all_goals (split <;> rfl)
      simp only [g_X5_reason_L1, x5_n h, go_out hn, x5_armyOn h hd, bd_some, hfo, if_neg (nI_m1 (show o < 2 ^ 31 by omega)), x5_of1 h ha, x5_movesTo h ho, ibi, r9 ho, r9 ha, hst o ho, hst a ha, st_lt (hs o) (hs a), key]
      unfold rsO swpP
      by_cases e2 : v o 2 = 1 <;> by_cases e3 : v o 3 = v a 1 <;> by_cases e4 : stN n v a ≤ stN n v o <;> simp [e2, e3, e4, cite]
    · rw [rsT_none e]
      simp only [g_X5_reason_L1, x5_n h, go_out hn, x5_armyOn h hd, bd_some, hfo, if_true]
end RE
