/-! judging the supports, weighing the orders -/
theorem upd_to {f g : Nat → Int32} {i : Nat} {x : Int32} (h : ∀ a, a < i → f a = g a) (hx : x = g i) : ∀ a, a < i + 1 → upd f i x a = g a := by
  intro a ha
  by_cases e : a = i
  · subst e; rw [pk_us, hx]
  · rw [pk_un e]; exact h a (by omega)
theorem i_add0 (x : Int32) : x + 0 = x := by simp
section WE
variable {n : Nat} {v : Nat → Nat → Int32} {bN bC s : Nat → Int32} {a : Nat}
set_option maxHeartbeats 2000000 in
theorem x2_judge (h : CB n v bN bC) (hd : dist n v) (cu co : Nat → Int32) : ∃ cu' co', g_X2_judgeSupports bN bC cu co = some (cu', co') ∧ (∀ a, a < n → cu' a = bi (cutQ n v a)) ∧ ∀ a, a < n → co' a = bi (cntQ n v a) := by
  have hn := h.1
  obtain ⟨⟨y1, y2⟩, h1, h2, h3⟩ := lpF (fun nf i (x : (Nat → Int32) × (Nat → Int32)) => g_X2_judgeSupports_L1 bN bC nf (nI i) x.1 x.2) n
    (fun i x => (∀ a, a < i → x.2 a = bi (cutQ n v a)) ∧ ∀ a, a < i → x.1 a = bi (cntQ n v a)) (fun y => (∀ a, a < n → y.2 a = bi (cutQ n v a)) ∧ ∀ a, a < n → y.1 a = bi (cntQ n v a)) (by omega) (co, cu) ⟨fun a ha => by omega, fun a ha => by omega⟩
    (fun nf i x hi hI => by
      refine Or.inl ⟨(upd x.1 i (bi (cntQ n v i)), upd x.2 i (bi (cutQ n v i))), ⟨upd_to hI.1 rfl, upd_to hI.2 rfl⟩, ?_⟩
      have hi9 : i < 9 := by omega
      simp only [g_X2_judgeSupports_L1, x0_number0 h, bd_some, go_on hn hi, x0_of2 h hi, g_X2_judgeSupports_J1, g_X2_judgeSupports_J2, g_X2_judgeSupports_J3, g_X2_judgeSupports_J4, g_X2_judgeSupports_J5, x2_isCutOff h hi, x2_hasUse h hd hi, x4_enter hi9, nI_1, cutQ, cntQ]
      by_cases e2 : v i 2 = 2 <;> by_cases e3 : cutP n v i <;> by_cases e0 : useP n v i <;> simp [e2, e3, e0, bi])
    (fun nf x hI => ⟨x, by simp only [g_X2_judgeSupports_L1, x0_number0 h, bd_some, go_out hn], hI⟩)
  exact ⟨y2, y1, by rw [g_X2_judgeSupports, show g_X2_judgeSupports_L1 bN bC FU 0 co cu = some (y1, y2) from h1]; rfl, h2, h3⟩
theorem x2_supportsOf (h : CB n v bN bC) {co : Nat → Int32} (hco : ∀ a, a < n → co a = bi (cntQ n v a)) (x y : Int32) : g_X2_supportsOf bN bC co x y = some (nI (num n fun c => v c 4 = x ∧ v c 3 = y ∧ cntQ n v c)) := by
  have hn := h.1
  rw [g_X2_supportsOf, bd_id]
  refine lpC (fun nf i z => g_X2_supportsOf_L1 bN bC x y co nf z (nI i)) n _ (by omega) (fun nf i z hi => ?_) (fun nf z => ?_)
  · have hi9 : i < 9 := by omega
    simp only [g_X2_supportsOf_L1, x0_number0 h, bd_some, go_on hn hi, x0_of4 h hi, x0_of3 h hi, g_X2_supportsOf_J1, x4_entry hi9, hco i hi, nI_1, i_add0]
    by_cases e2 : v i 4 = x <;> by_cases e3 : v i 3 = y <;> by_cases e0 : cntQ n v i <;> simp [e2, e3, e0, bi]
  · simp only [g_X2_supportsOf_L1, x0_number0 h, bd_some, go_out hn]
theorem st_same (hd : dist n v) (ha : a < n) : stN n v a = 1 + num n (fun c => v c 4 = v a 1 ∧ v c 3 = (if v a 2 = 1 then v a 3 else v a 1) ∧ cntQ n v c) := by
  unfold stN
  congr 1
  refine num_c (fun c hc => ⟨?_, fun ⟨h1, h2, h3⟩ => ⟨h3, h1⟩⟩)
  rintro ⟨h1, h2⟩
  refine ⟨h2, ?_, h1⟩
  obtain ⟨g1, g2 | ⟨g2, g3, g4⟩⟩ := (useP_of hd ha h2.symm).mp h1.2.1
  · rw [if_neg g2.2, ← g2.1, h2]
  · rw [if_pos g3, g4]
theorem st_le (n : Nat) (v : Nat → Nat → Int32) (a : Nat) : stN n v a ≤ 1 + n := by
  have := num_le n (fun c => cntQ n v c ∧ v c 4 = v a 1)
  unfold stN; omega
theorem x2_weigh (h : CB n v bN bC) (hd : dist n v) {co : Nat → Int32} (hco : ∀ a, a < n → co a = bi (cntQ n v a)) (st : Nat → Int32) : ∃ st', g_X2_weighOrders bN bC co st = some st' ∧ ∀ a, a < n → st' a = nI (stN n v a) := by
  have hn := h.1
  obtain ⟨y, h1, h2⟩ := lpF (fun nf i x => g_X2_weighOrders_L1 bN bC co nf (nI i) x) n (fun i x => ∀ a, a < i → x a = nI (stN n v a)) (fun y => ∀ a, a < n → y a = nI (stN n v a)) (by omega) st (fun a ha => by omega)
    (fun nf i x hi hI => by
      refine Or.inl ⟨upd x i (nI (stN n v i)), upd_to hI rfl, ?_⟩
      have hi9 : i < 9 := by omega
      have e1 : ∀ k, (1 : Int32) + nI k = nI (1 + k) := fun k => nI_add 1 k
      rw [st_same hd hi]
      simp only [g_X2_weighOrders_L1, x0_number0 h, bd_some, go_on hn hi, x0_of1 h hi, x0_of3 h hi, x2_moves h hi, g_X2_weighOrders_J1, x2_supportsOf h hco, x4_enter hi9, nI_1, e1]
      by_cases e2 : v i 2 = 1 <;> simp [e2, bi])
    (fun nf x hI => ⟨x, by simp only [g_X2_weighOrders_L1, x0_number0 h, bd_some, go_out hn], hI⟩)
  exact ⟨y, by rw [g_X2_weighOrders, bd_id]; exact h1, h2⟩
set_option maxHeartbeats 2000000 in
theorem x5_strengths (h : MB n v s) (hd : dist n v) (q1 q2 q3 q4 q5 q6 q7 : Nat → Int32) : ∃ cu co st fa dr wy dn, g_X5_layStrengths s q1 q2 q3 q4 q5 q6 q7 = some (cu, co, st, fa, dr, wy, dn) ∧
    ∀ a, a < n → cu a = bi (cutQ n v a) ∧ co a = bi (cntQ n v a) ∧ st a = nI (stN n v a) ∧ fa a = 0 ∧ dr a = -1 ∧ wy a = 0 ∧ dn a = 0 := by
  have hn := h.1
  obtain ⟨⟨co, dr, fa, cu, dn, st, wy⟩, h1, h2⟩ := lpF (fun nf i (x : (Nat → Int32) × (Nat → Int32) × (Nat → Int32) × (Nat → Int32) × (Nat → Int32) × (Nat → Int32) × (Nat → Int32)) => g_X5_layStrengths_L1 s nf (nI i) x.1 x.2.1 x.2.2.1 x.2.2.2.1 x.2.2.2.2.1 x.2.2.2.2.2.1 x.2.2.2.2.2.2) n
    (fun i x => ∀ a, a < i → x.1 a = bi (cntQ n v a) ∧ x.2.1 a = -1 ∧ x.2.2.1 a = 0 ∧ x.2.2.2.1 a = bi (cutQ n v a) ∧ x.2.2.2.2.1 a = 0 ∧ x.2.2.2.2.2.1 a = 1 ∧ x.2.2.2.2.2.2 a = 0)
    (fun x => ∀ a, a < n → x.1 a = bi (cntQ n v a) ∧ x.2.1 a = -1 ∧ x.2.2.1 a = 0 ∧ x.2.2.2.1 a = bi (cutQ n v a) ∧ x.2.2.2.2.1 a = 0 ∧ x.2.2.2.2.2.1 a = 1 ∧ x.2.2.2.2.2.2 a = 0) (by omega) (q2, q5, q4, q1, q7, q3, q6) (fun a ha => by omega)
    (fun nf i x hi hI => by
      refine Or.inl ⟨(upd x.1 i (bi (cntQ n v i)), upd x.2.1 i (-1), upd x.2.2.1 i 0, upd x.2.2.2.1 i (bi (cutQ n v i)), upd x.2.2.2.2.1 i 0, upd x.2.2.2.2.2.1 i 1, upd x.2.2.2.2.2.2 i 0), ?_, ?_⟩
      · intro a ha
        by_cases e : a = i
        · subst e; simp only [pk_us]; exact ⟨trivial, trivial, trivial, trivial, trivial, trivial, trivial⟩
        · simp only [pk_un e]; exact hI a (by omega)
      · have hi9 : i < 9 := by omega
        have w9 : ∀ {α : Type} {f : Nat → Int32} {x : Int32} {k : (Nat → Int32) → Option α}, wrA f 9 (nI i) x k = k (upd f i x) := wrA_n hi9 (by decide)
        have r9 : ∀ {α : Type} {f : Nat → Int32} {k : Int32 → Option α}, rdA f 9 (nI i) k = k (f i) := rdA_n hi9 (by decide)
        simp only [g_X5_layStrengths_L1, x5_n h, bd_some, go_on hn hi, x5_of2 h hi, g_X5_layStrengths_J1, g_X5_layStrengths_J2, x5_isAttacked h hi, x5_hasObject h hd hi, w9, r9, pk_us, nI_1, cutQ, cntQ]
        by_cases e2 : v i 2 = 2 <;> by_cases e3 : cutP n v i <;> by_cases e0 : useP n v i <;> simp [e2, e3, e0, bi, pk_us])
    (fun nf x hI => ⟨x, by simp only [g_X5_layStrengths_L1, x5_n h, bd_some, go_out hn], hI⟩)
  obtain ⟨y, h3, h4⟩ := lpF (fun nf i x => g_X5_layStrengths_L2 s co nf (nI i) x) n (fun i x => ∀ a, a < n → x a = nI (1 + num i (fun c => cntQ n v c ∧ v c 4 = v a 1))) (fun y => ∀ a, a < n → y a = nI (stN n v a)) (by omega) st (fun a ha => (h2 a ha).2.2.2.2.2.1)
    (fun nf i x hi hI => by
      have r9 : ∀ {α : Type} {f : Nat → Int32} {j : Nat} {k : Int32 → Option α}, j < n → rdA f 9 (nI j) k = k (f j) := fun hj => rdA_n (by omega) (by decide)
      have hc : co i = bi (cntQ n v i) := (h2 i hi).1
      by_cases e : cntQ n v i
      · obtain ⟨o, ho, e4, _⟩ := e.2.1
        have hf : (fi n fun c => v c 1 = v i 4) = nI o := fi_one ho e4 (fun c hc hq => hd c o hc ho (hq.trans e4.symm))
        refine Or.inl ⟨upd x o (x o + 1), ?_, ?_⟩
        · intro a ha
          by_cases q : a = o
          · subst q
            rw [pk_us, hI a ha, num_t ⟨e, e4.symm⟩, nI_1]; rfl
          · rw [pk_un q, hI a ha, num_f (fun w => q (hd a o ha ho (w.2.symm.trans e4.symm)))]
        · simp only [g_X5_layStrengths_L2, x5_n h, go_on hn hi, r9 hi, hc, ibi, if_pos e, x5_of4 h hi, bd_some, x5_armyOn h hd, hf, r9 ho, wrA_n (show o < 9 by omega) (show 9 < 2 ^ 31 by decide), nI_1]
      · refine Or.inl ⟨x, ?_, ?_⟩
        · intro a ha
          rw [hI a ha, num_f (fun w => e w.1)]
        · simp only [g_X5_layStrengths_L2, x5_n h, go_on hn hi, r9 hi, hc, ibi, if_neg e, nI_1])
    (fun nf x hI => ⟨x, by simp only [g_X5_layStrengths_L2, x5_n h, go_out hn], hI⟩)
  refine ⟨cu, co, y, fa, dr, wy, dn, ?_, fun a ha => ?_⟩
  · rw [g_X5_layStrengths, show g_X5_layStrengths_L1 s FU 0 q2 q5 q4 q1 q7 q3 q6 = some (co, dr, fa, cu, dn, st, wy) from h1]
    show ((g_X5_layStrengths_L2 s co FU 0 st).bind _) = _
    rw [show g_X5_layStrengths_L2 s co FU 0 st = some y from h3]; rfl
  · obtain ⟨g1, g2, g3, g4, g5, g6, g7⟩ := h2 a ha
    exact ⟨g4, g1, h4 a ha, g3, g2, g7, g5⟩
end WE
