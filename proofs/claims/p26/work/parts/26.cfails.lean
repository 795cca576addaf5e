/-! the class's own way to the moves that fail -/
section CF
variable {n : Nat} {v : Nat → Nat → Int32} {bN bC s st re : Nat → Int32} {a : Nat}
def goQ (v : Nat → Nat → Int32) (re : Nat → Int32) (a : Nat) : Prop := v a 2 = 1 ∧ re a = 0
theorem x2_goes (h : CB n v bN bC) (ha : a < n) : g_X2_goes bC re (nI a) = some (bi (goQ v re a)) := by
  have hn := h.1
  rw [g_X2_goes, x0_of2 h ha, bd_some, x4_entry (show a < 9 by omega), bd_some]
  unfold goQ
  by_cases e1 : v a 2 = 1 <;> by_cases e2 : re a = 0 <;> simp [e1, e2, bi]
theorem x2_hasRival (h : CB n v bN bC) (ha : a < n) (hst : ∀ o, o < n → st o = nI (stN n v o)) : g_X2_hasRival bN bC st (nI a) = some (bi (rivP n v a)) := by
  have hn := h.1
  have hs : ∀ o, stN n v o ≤ 10 := fun o => Nat.le_trans (st_le n v o) (by omega)
  refine lpEb (fun nf i => g_X2_hasRival_L1 bN (nI a) bC st nf (nI i)) n _ (by omega) (fun nf i hi => ?_) (fun nf => ?_)
  · simp only [g_X2_hasRival_L1, x0_number0 h, go_on hn hi, bd_some, x2_moves h hi, ibi, x0_of3 h hi, x0_of3 h ha, x4_entry (show i < 9 by omega), x4_entry (show a < 9 by omega), hst i hi, hst a ha, nI_1, st_lt (hs i) (hs a), nI_eq (show i < 2 ^ 31 by omega) (show a < 2 ^ 31 by omega)]
    by_cases e1 : i = a
    · simp [e1]
    · by_cases e2 : v i 2 = 1 <;> by_cases e3 : v i 3 = v a 3 <;> by_cases e0 : stN n v a ≤ stN n v i <;> simp [e1, e2, e3, e0]
  · simp only [g_X2_hasRival_L1, x0_number0 h, bd_some, go_out hn]
def swQ (n : Nat) (v : Nat → Nat → Int32) (a : Nat) : Prop := ∃ o, o < n ∧ v o 1 = v a 3 ∧ swpP n v a o
theorem swQ_of (hd : dist n v) {o : Nat} (ho : o < n) (e : v o 1 = v a 3) : swQ n v a ↔ swpP n v a o := by
  refine ⟨?_, fun h => ⟨o, ho, e, h⟩⟩
  rintro ⟨o', h1, h2, h3⟩
  obtain rfl := hd o' o h1 ho (h2.trans e.symm)
  exact h3
theorem x2_losesSwap (h : CB n v bN bC) (hd : dist n v) (ha : a < n) (hst : ∀ o, o < n → st o = nI (stN n v o)) : g_X2_losesSwap bC bN st (nI a) = some (bi (swQ n v a)) := by
  have hn := h.1
  have hs : ∀ o, stN n v o ≤ 10 := fun o => Nat.le_trans (st_le n v o) (by omega)
  rw [g_X2_losesSwap, x0_of3 h ha, bd_some, x0_armyOn h, bd_some]
  rcases on_cases hn hd (v a 3) with ⟨o, ho, e, hf⟩ | ⟨e, hf⟩
  · rw [hf, if_neg (nI_m1 (by omega)), bi_c (swQ_of hd ho e)]
    simp only [x2_moves h ho, ibi, x0_of3 h ho, x0_of1 h ha, bd_some, x4_entry (show o < 9 by omega), x4_entry (show a < 9 by omega), hst o ho, hst a ha, st_lt (hs o) (hs a)]
    unfold swpP
    by_cases e2 : v o 2 = 1 <;> by_cases e3 : v o 3 = v a 1 <;> by_cases e0 : stN n v a ≤ stN n v o <;> simp [e2, e3, e0, bi]
  · rw [hf, if_pos rfl, bi_f]
    rintro ⟨o, h1, h2, _⟩
    exact e o h1 h2
theorem x2_blockOf (h : CB n v bN bC) (hd : dist n v) (ha : a < n) (hst : ∀ o, o < n → st o = nI (stN n v o)) (h1 : ¬ rivP n v a) (h2 : ¬ swQ n v a) : g_X2_blockOf bC bN re st (nI a) = some (rs n v (fun o => ¬ re o = 0) a) := by
  have hn := h.1
  have hs : ∀ o, stN n v o ≤ 10 := fun o => Nat.le_trans (st_le n v o) (by omega)
  rw [g_X2_blockOf, x0_of3 h ha, bd_some, x0_armyOn h, bd_some]
  unfold rs
  rw [cite_f h1]
  rcases on_cases hn hd (v a 3) with ⟨o, ho, e, hf⟩ | ⟨e, hf⟩
  · rw [hf, if_neg (nI_m1 (by omega)), rsT_on hn hd ho e]
    simp only [x2_goes h ho, x2_moves h ho, ibi, x0_of0 h ho, x0_of0 h ha, bd_some, g_X2_blockOf_J1, x4_entry (show o < 9 by omega), x4_entry (show a < 9 by omega), hst o ho, hst a ha, st_lt (hs o) (hs a), st_lt1 (hs a)]
    unfold rsO
    rw [cite_f (fun q => h2 ((swQ_of hd ho e).mpr q))]
    unfold blk stayP goQ
    by_cases e2 : v o 2 = 1 <;> by_cases e3 : re o = 0 <;> by_cases e0 : v o 0 = v a 0 <;> simp [e2, e3, e0, cite]
    all_goals (split <;> rfl)
  · rw [hf, if_pos rfl, rsT_none e]
def KC (n : Nat) (v : Nat → Nat → Int32) (re : Nat → Int32) : Prop := ∀ a, a < n → (re a = 0 ∨ (Fx n v a ∧ re a = rs n v (Fx n v) a)) ∧ (v a 2 = 1 → re a = 0 → ¬ rivP n v a ∧ ¬ swQ n v a)
def CC (n : Nat) (v : Nat → Nat → Int32) (re : Nat → Int32) : Prop := ∀ a, a < n → v a 2 = 1 → re a = 0 → rs n v (fun o => ¬ re o = 0) a = 0
theorem KC.all (hn : n ≤ 9) (hd : dist n v) (h : KC n v re) (hc : CC n v re) (ha : a < n) : re a = wyS n v a := by
  rcases (h a ha).1 with e | ⟨e1, e2⟩
  · rw [e]
    refine ((wyS_0 hn hd).mpr (fun hx => ?_)).symm
    exact hx (fun o => ¬ re o = 0) (fun o ho hm hr h0 => hr (hc o ho hm h0)) e
  · rw [e2]; unfold wyS; rw [cite_t e1]
theorem rs_riv {F : Nat → Prop} (h : rivP n v a) : rs n v F a = 1 := by unfold rs; rw [cite_t h]
theorem rs_swp {F : Nat → Prop} (hn : n ≤ 9) (hd : dist n v) (h1 : ¬ rivP n v a) (h : swQ n v a) : rs n v F a = 2 := by
  obtain ⟨o, ho, e, h2⟩ := h
  unfold rs
  rw [cite_f h1, rsT_on hn hd ho e]
  unfold rsO
  rw [cite_t h2]
theorem x2_failM (h : CB n v bN bC) (hd : dist n v) (hst : ∀ o, o < n → st o = nI (stN n v o)) (re0 : Nat → Int32) : ∃ re, g_X2_failAgainstMoves bN bC st re0 = some re ∧ KC n v re := by
  have hn := h.1
  obtain ⟨re, h1, h2⟩ := lpF (fun nf i x => g_X2_failAgainstMoves_L1 bN bC st nf (nI i) x) n (fun i x => ∀ a, a < i → x a = cite (v a 2 = 1) (cite (rivP n v a) 1 (cite (swQ n v a) 2 0)) 0) (fun x => ∀ a, a < n → x a = cite (v a 2 = 1) (cite (rivP n v a) 1 (cite (swQ n v a) 2 0)) 0) (by omega) re0 (fun a ha => by omega)
    (fun nf i x hi hI => by
      refine Or.inl ⟨upd x i (cite (v i 2 = 1) (cite (rivP n v i) 1 (cite (swQ n v i) 2 0)) 0), upd_to hI rfl, ?_⟩
      simp only [g_X2_failAgainstMoves_L1, x0_number0 h, go_on hn hi, bd_some, x2_moves h hi, ibi, x2_hasRival h hi hst, x2_losesSwap h hd hi hst, g_X2_failAgainstMoves_J1, x4_enter (show i < 9 by omega), nI_1]
      by_cases e1 : v i 2 = 1 <;> by_cases e2 : rivP n v i <;> by_cases e3 : swQ n v i <;> simp [e1, e2, e3, cite])
    (fun nf x hI => ⟨x, by simp only [g_X2_failAgainstMoves_L1, x0_number0 h, bd_some, go_out hn], hI⟩)
  refine ⟨re, by rw [g_X2_failAgainstMoves, bd_id]; exact h1, fun a ha => ?_⟩
  rw [h2 a ha]
  by_cases e1 : v a 2 = 1
  · rw [cite_t e1]
    by_cases e2 : rivP n v a
    · rw [cite_t e2]
      refine ⟨Or.inr ⟨Fx_clo hn hd a ha e1 ?_, (rs_riv e2).symm⟩, fun _ q => absurd q (by decide)⟩
      rw [rs_riv e2]; decide
    · rw [cite_f e2]
      by_cases e3 : swQ n v a
      · rw [cite_t e3]
        refine ⟨Or.inr ⟨Fx_clo hn hd a ha e1 ?_, (rs_swp hn hd e2 e3).symm⟩, fun _ q => absurd q (by decide)⟩
        rw [rs_swp hn hd e2 e3]; decide
      · rw [cite_f e3]
        exact ⟨Or.inl rfl, fun _ _ => ⟨e2, e3⟩⟩
  · rw [cite_f e1]
    exact ⟨Or.inl rfl, fun q => absurd q e1⟩
theorem x2_pass (h : CB n v bN bC) (hd : dist n v) (hst : ∀ o, o < n → st o = nI (stN n v o)) {f : Nat → Int32} (hK : KC n v f) :
    ∃ b f', g_X2_failAgainstArmies_L2 bN bC st FU 0 0 f = some (b, f') ∧ KC n v f' ∧ ((b = 0 ∧ f' = f ∧ CC n v f) ∨ (b = 1 ∧ num n (fun o => ¬ f o = 0) < num n (fun o => ¬ f' o = 0))) := by
  have hn := h.1
  obtain ⟨⟨b, f'⟩, h1, h2, h3⟩ := lpF (fun nf i (x : Int32 × (Nat → Int32)) => g_X2_failAgainstArmies_L2 bN bC st nf x.1 (nI i) x.2) n
    (fun i x => KC n v x.2 ∧ ((x.1 = 0 ∧ x.2 = f ∧ ∀ a, a < i → v a 2 = 1 → f a = 0 → rs n v (fun o => ¬ f o = 0) a = 0) ∨ (x.1 = 1 ∧ num n (fun o => ¬ f o = 0) < num n (fun o => ¬ x.2 o = 0))))
    (fun x => KC n v x.2 ∧ ((x.1 = 0 ∧ x.2 = f ∧ CC n v f) ∨ (x.1 = 1 ∧ num n (fun o => ¬ f o = 0) < num n (fun o => ¬ x.2 o = 0)))) (by omega) (0, f) ⟨hK, Or.inl ⟨rfl, rfl, fun a ha => by omega⟩⟩
    (fun nf i x hi hI => by
      obtain ⟨b, g⟩ := x
      obtain ⟨hKg, hor⟩ := hI
      replace hKg : KC n v g := hKg
      replace hor : (b = 0 ∧ g = f ∧ ∀ a, a < i → v a 2 = 1 → f a = 0 → rs n v (fun o => ¬ f o = 0) a = 0) ∨ (b = 1 ∧ num n (fun o => ¬ f o = 0) < num n (fun o => ¬ g o = 0)) := hor
      by_cases hf : goQ v g i
      · have hno := (hKg i hi).2 hf.1 hf.2
        have hrs : g_X2_blockOf bC bN g st (nI i) = some (rs n v (fun o => ¬ g o = 0) i) := x2_blockOf h hd hi hst hno.1 hno.2
        by_cases e3 : rs n v (fun o => ¬ g o = 0) i = 0
        · have hor' := hor.imp (fun ⟨q1, q2, q3⟩ => (⟨q1, q2, fun a ha hm h0 => by
            by_cases q : a = i
            · subst q
              rw [← q2]; exact e3
            · exact q3 a (by omega) hm h0⟩ : b = 0 ∧ g = f ∧ ∀ a, a < i + 1 → v a 2 = 1 → f a = 0 → rs n v (fun o => ¬ f o = 0) a = 0)) id
          refine Or.inl ⟨(b, g), ⟨hKg, hor'⟩, ?_⟩
          simp only [g_X2_failAgainstArmies_L2, x0_number0 h, go_on hn hi, bd_some, x2_goes h hi, ibi, if_pos hf, hrs, g_X2_failAgainstArmies_J1, if_pos e3, nI_1]
        · have hmono : rs n v (Fx n v) i = rs n v (fun o => ¬ g o = 0) i := rs_mono hn hd (fun o ho hq => by
            rcases (hKg o ho).1 with q | q
            · exact absurd q hq
            · exact q.1) e3
          refine Or.inl ⟨(1, upd g i (rs n v (fun o => ¬ g o = 0) i)), ⟨?_, Or.inr ⟨rfl, ?_⟩⟩, ?_⟩
          · intro a ha
            show (upd g i _ a = 0 ∨ (_ ∧ upd g i _ a = _)) ∧ (_ → upd g i _ a = 0 → _)
            by_cases q : a = i
            · subst q
              rw [pk_us]
              exact ⟨Or.inr ⟨Fx_clo hn hd a ha hf.1 (by rw [hmono]; exact e3), hmono.symm⟩, fun _ w => absurd w e3⟩
            · rw [pk_un q]; exact hKg a ha
          · have hlt : num n (fun o => ¬ g o = 0) < num n (fun o => ¬ upd g i (rs n v (fun o => ¬ g o = 0) i) o = 0) := by
              refine num_lt (fun c hc hq => ?_) hi (fun w => w hf.2) (by rw [pk_us]; exact e3)
              by_cases q : c = i
              · rw [q, pk_us]; exact e3
              · rw [pk_un q]; exact hq
            rcases hor with ⟨_, q, _⟩ | ⟨_, q⟩
            · rw [← q]; exact hlt
            · exact Nat.lt_trans q hlt
          · simp only [g_X2_failAgainstArmies_L2, x0_number0 h, go_on hn hi, bd_some, x2_goes h hi, ibi, if_pos hf, hrs, g_X2_failAgainstArmies_J1, if_neg e3, x4_enter (show i < 9 by omega), nI_1]
      · have hor' := hor.imp (fun ⟨q1, q2, q3⟩ => (⟨q1, q2, fun a ha hm h0 => by
          by_cases q : a = i
          · subst q
            exact absurd ⟨hm, by rw [q2]; exact h0⟩ hf
          · exact q3 a (by omega) hm h0⟩ : b = 0 ∧ g = f ∧ ∀ a, a < i + 1 → v a 2 = 1 → f a = 0 → rs n v (fun o => ¬ f o = 0) a = 0)) id
        refine Or.inl ⟨(b, g), ⟨hKg, hor'⟩, ?_⟩
        simp only [g_X2_failAgainstArmies_L2, x0_number0 h, go_on hn hi, bd_some, x2_goes h hi, ibi, if_neg hf, g_X2_failAgainstArmies_J1, if_true, nI_1])
    (fun nf x hI => ⟨x, by simp only [g_X2_failAgainstArmies_L2, x0_number0 h, bd_some, go_out hn], hI⟩)
  exact ⟨b, f', h1, h2, h3⟩
theorem x2_failA (h : CB n v bN bC) (hd : dist n v) (hst : ∀ o, o < n → st o = nI (stN n v o)) {f : Nat → Int32} (hK : KC n v f) : ∃ re, g_X2_failAgainstArmies bN bC f st = some re ∧ ∀ a, a < n → re a = wyS n v a := by
  have hn := h.1
  obtain ⟨f1, h1, h2, h3⟩ := lpF (fun nf r (x : Int32 × (Nat → Int32)) => g_X2_failAgainstArmies_L1 bN bC st nf x.1 (nI r) x.2) 10
    (fun r x => KC n v x.2 ∧ ((x.1 = 1 ∧ r ≤ num n (fun o => ¬ x.2 o = 0)) ∨ (x.1 = 0 ∧ CC n v x.2))) (fun f => KC n v f ∧ CC n v f) (by decide) (1, f) ⟨hK, Or.inl ⟨rfl, Nat.zero_le _⟩⟩
    (fun nf r x hr hI => by
      obtain ⟨b, g⟩ := x
      obtain ⟨hKg, hor⟩ := hI
      have h9 : ¬ (9 : Int32) < nI r := nI_nlt (a := 9) (by omega) (by decide)
      rcases hor with ⟨q1, q2⟩ | ⟨q1, q2⟩
      · replace q1 : b = 1 := q1
        subst q1
        obtain ⟨b', g', g1, g2, g3⟩ := x2_pass h hd hst (f := g) hKg
        refine Or.inl ⟨(b', g'), ⟨g2, ?_⟩, ?_⟩
        · rcases g3 with ⟨q3, q4, q5⟩ | ⟨q3, q4⟩
          · exact Or.inr ⟨q3, by show CC n v g'; rw [q4]; exact q5⟩
          · exact Or.inl ⟨q3, Nat.lt_of_le_of_lt q2 q4⟩
        · show g_X2_failAgainstArmies_L1 bN bC st (nf + 1) 1 (nI r) g = _
          rw [g_X2_failAgainstArmies_L1, if_neg h9, if_neg (by decide), g1, nI_1]; rfl
      · replace q1 : b = 0 := q1
        subst q1
        exact Or.inr ⟨g, by show g_X2_failAgainstArmies_L1 bN bC st (nf + 1) 0 (nI r) g = _; rw [g_X2_failAgainstArmies_L1, if_neg h9, if_pos rfl], hKg, q2⟩)
    (fun nf x hI => by
      obtain ⟨b, g⟩ := x
      obtain ⟨hKg, hor⟩ := hI
      rcases hor with ⟨q1, q2⟩ | ⟨q1, q2⟩
      · have := num_le n (fun o => ¬ g o = 0)
        replace q2 : 10 ≤ num n (fun o => ¬ g o = 0) := q2
        omega
      · exact ⟨g, by show g_X2_failAgainstArmies_L1 bN bC st (nf + 1) b (nI 10) g = _; rw [g_X2_failAgainstArmies_L1, if_pos (by decide)], hKg, q2⟩)
  exact ⟨f1, by rw [g_X2_failAgainstArmies, bd_id]; exact h1, fun a ha => h2.all hn hd h3 ha⟩
theorem x2_decide (h : CB n v bN bC) (hd : dist n v) (q1 q2 q3 q4 : Nat → Int32) : ∃ cu co st re, g_X2_decideMoves bN bC q1 q2 q3 q4 = some (cu, co, st, re) ∧
    ∀ a, a < n → cu a = bi (cutQ n v a) ∧ co a = bi (cntQ n v a) ∧ st a = nI (stN n v a) ∧ re a = wyS n v a := by
  obtain ⟨cu, co, h1, h2, h3⟩ := x2_judge h hd q1 q2
  obtain ⟨st, h4, h5⟩ := x2_weigh h hd h3 q3
  obtain ⟨re0, h6, h7⟩ := x2_failM h hd h5 q4
  obtain ⟨re, h8, h9⟩ := x2_failA h hd h5 h7
  refine ⟨cu, co, st, re, ?_, fun a ha => ⟨h2 a ha, h3 a ha, h5 a ha, h9 a ha⟩⟩
  rw [g_X2_decideMoves, h1]
  show ((g_X2_weighOrders bN bC co q3).bind _) = _
  rw [h4, bd_some, h6, bd_some, h8]; rfl
end CF
