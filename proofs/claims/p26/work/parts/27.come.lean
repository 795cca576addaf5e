/-! who comes to whose field; who is driven off; the strongest of those driven off -/
def goS (n : Nat) (v : Nat → Nat → Int32) (a : Nat) : Prop := v a 2 = 1 ∧ ¬ Fx n v a
noncomputable def drS (n : Nat) (v : Nat → Nat → Int32) (o : Nat) : Int32 := cite (goS n v o) (-1) (fi n fun a => goS n v a ∧ v a 3 = v o 1)
noncomputable def plS (n : Nat) (v : Nat → Nat → Int32) (a : Nat) : Int32 := cite (goS n v a) (v a 3) (v a 1)
def drv (n : Nat) (v : Nat → Nat → Int32) (a : Nat) : Prop := ¬ drS n v a = -1
noncomputable def dsN (n : Nat) (v : Nat → Nat → Int32) (a : Nat) : Nat := stN n v (drS n v a).toNatClampNeg
/-- the first of the strongest among W -/
noncomputable def mx (n : Nat) (W : Nat → Prop) (ds : Nat → Nat) : Int32 := match n with
  | 0 => -1
  | n + 1 => cite (W n ∧ (mx n W ds = -1 ∨ ds (mx n W ds).toNatClampNeg < ds n)) (nI n) (mx n W ds)
theorem mx_c {n : Nat} {W W' : Nat → Prop} {ds : Nat → Nat} (h : ∀ a, a < n → (W a ↔ W' a)) : mx n W ds = mx n W' ds := by
  induction n with
  | zero => rfl
  | succ n ih =>
    have ih' := ih (fun a ha => h a (by omega))
    show cite _ _ _ = cite _ _ _
    rw [ih', propext (h n (by omega))]
theorem mx_cases (n : Nat) (W : Nat → Prop) (ds : Nat → Nat) : (∃ a, a < n ∧ W a ∧ mx n W ds = nI a) ∨ ((∀ a, a < n → ¬ W a) ∧ mx n W ds = -1) := by
  induction n with
  | zero => exact Or.inr ⟨fun a ha => by omega, rfl⟩
  | succ n ih =>
    have e : mx (n + 1) W ds = cite (W n ∧ (mx n W ds = -1 ∨ ds (mx n W ds).toNatClampNeg < ds n)) (nI n) (mx n W ds) := rfl
    by_cases h : W n ∧ (mx n W ds = -1 ∨ ds (mx n W ds).toNatClampNeg < ds n)
    · exact Or.inl ⟨n, by omega, h.1, by rw [e, cite_t h]⟩
    · rw [e, cite_f h]
      rcases ih with ⟨a, h1, h2, h3⟩ | ⟨h1, h2⟩
      · exact Or.inl ⟨a, by omega, h2, h3⟩
      · refine Or.inr ⟨fun a ha hw => ?_, h2⟩
        by_cases q : a = n
        · subst q; exact h ⟨hw, Or.inl h2⟩
        · exact h1 a (by omega) hw
section CO
variable {n : Nat} {v : Nat → Nat → Int32} {bN bC s st re : Nat → Int32} {a : Nat}
theorem goQ_S (hn : n ≤ 9) (hd : dist n v) (h : re a = wyS n v a) : goQ v re a ↔ goS n v a := by
  unfold goQ goS; rw [h, wyS_0 hn hd]
theorem go_one (hn : n ≤ 9) (hd : dist n v) {b : Nat} (ha : a < n) (hb : b < n) (h1 : goS n v a) (h2 : goS n v b) (h3 : v a 3 = v b 3) : a = b := by
  refine Classical.byContradiction fun hne => ?_
  have key : ∀ c d : Nat, c < n → d < n → goS n v c → goS n v d → v c 3 = v d 3 → ¬ c = d → stN n v c ≤ stN n v d → False := fun c d hc hd' g1 g2 g3 g4 g5 => by
    have hr : rivP n v c := ⟨d, hd', fun e => g4 e.symm, g2.1, g3.symm, g5⟩
    exact g1.2 (Fx_clo hn hd c hc g1.1 (by rw [rs_riv hr]; decide))
  by_cases q : stN n v a ≤ stN n v b
  · exact key a b ha hb h1 h2 h3 hne q
  · exact key b a hb ha h2 h1 h3.symm (fun e => hne e.symm) (by omega)
theorem dr_cases (hn : n ≤ 9) (o : Nat) : drS n v o = -1 ∨ (¬ goS n v o ∧ ∃ b, b < n ∧ goS n v b ∧ v b 3 = v o 1 ∧ drS n v o = nI b) := by
  unfold drS
  by_cases h : goS n v o
  · exact Or.inl (by rw [cite_t h])
  · rw [cite_f h]
    rcases fi_cases n (fun a => goS n v a ∧ v a 3 = v o 1) with ⟨b, h1, h2, h3, h4⟩ | ⟨h3, h4⟩
    · exact Or.inr ⟨h, b, h1, h2.1, h2.2, h4⟩
    · exact Or.inl h4
theorem dr_of (hn : n ≤ 9) (hd : dist n v) {o b : Nat} (h : ¬ goS n v o) (hb : b < n) (h1 : goS n v b) (h2 : v b 3 = v o 1) : drS n v o = nI b := by
  unfold drS
  rw [cite_f h, fi_one hb ⟨h1, h2⟩ (fun c hc hq => go_one hn hd hc hb hq.1 h1 (hq.2.trans h2.symm))]
theorem x2_comerTo (h : CB n v bN bC) (hd : dist n v) (hre : ∀ a, a < n → re a = wyS n v a) (x : Int32) : g_X2_comerTo bN bC re x = some (fi n fun a => goS n v a ∧ v a 3 = x) := by
  have hn := h.1
  refine lpI (fun nf i => g_X2_comerTo_L1 bN bC re x nf (nI i)) n _ (by omega) (fun nf i hi => ?_) (fun nf => ?_)
  · simp only [g_X2_comerTo_L1, x0_number0 h, go_on hn hi, bd_some, x2_goes h hi, bi_c (goQ_S hn hd (hre i hi)), ibi, x0_of3 h hi, nI_1]
    by_cases e1 : goS n v i <;> by_cases e2 : v i 3 = x <;> simp [e1, e2]
  · simp only [g_X2_comerTo_L1, x0_number0 h, bd_some, go_out hn]
theorem x2_come (h : CB n v bN bC) (hd : dist n v) (hre : ∀ a, a < n → re a = wyS n v a) (q1 q2 q3 : Nat → Int32) : ∃ dr wa sd, g_X2_comeToFields bN bC re q1 q2 q3 = some (dr, wa, sd) ∧
    ∀ a, a < n → dr a = drS n v a ∧ wa a = bi (drv n v a) ∧ sd a = cite (drv n v a) (-1) (plS n v a) := by
  have hn := h.1
  obtain ⟨⟨dr, sd, wa⟩, h1, h2⟩ := lpF (fun nf i (x : (Nat → Int32) × (Nat → Int32) × (Nat → Int32)) => g_X2_comeToFields_L1 bN bC re nf (nI i) x.1 x.2.1 x.2.2) n
    (fun i x => ∀ a, a < i → x.1 a = drS n v a ∧ x.2.2 a = bi (drv n v a) ∧ x.2.1 a = cite (drv n v a) (-1) (plS n v a))
    (fun x => ∀ a, a < n → x.1 a = drS n v a ∧ x.2.2 a = bi (drv n v a) ∧ x.2.1 a = cite (drv n v a) (-1) (plS n v a)) (by omega) (q1, q3, q2) (fun a ha => by omega)
    (fun nf i x hi hI => by
      refine Or.inl ⟨(upd x.1 i (drS n v i), upd x.2.1 i (cite (drv n v i) (-1) (plS n v i)), upd x.2.2 i (bi (drv n v i))), ?_, ?_⟩
      · intro a ha
        by_cases e : a = i
        · subst e; simp only [pk_us]; exact ⟨trivial, trivial, trivial⟩
        · simp only [pk_un e]; exact hI a (by omega)
      · have h9 : i < 9 := by omega
        simp only [g_X2_comeToFields_L1, x0_number0 h, go_on hn hi, bd_some, x2_goes h hi, bi_c (goQ_S hn hd (hre i hi)), ibi, x0_of1 h hi, x0_of3 h hi, x2_comerTo h hd hre, g_X2_comeToFields_J1, g_X2_comeToFields_J2, g_X2_comeToFields_J3, g_X2_comeToFields_J4, x4_enter h9, nI_1]
        by_cases e1 : goS n v i
        · have e2 : drS n v i = -1 := by unfold drS; rw [cite_t e1]
          have e3 : ¬ drv n v i := fun q => q e2
          rw [bi_f e3, cite_f e3, e2]
          simp [e1, plS, cite]
        · have e2 : drS n v i = fi n (fun a => goS n v a ∧ v a 3 = v i 1) := by unfold drS; rw [cite_f e1]
          rw [if_neg e1, ← e2]
          by_cases e3 : drS n v i = -1
          · have e4 : ¬ drv n v i := fun q => q e3
            rw [if_pos e3, bi_f e4, cite_f e4, if_neg e1, if_pos e3]
            unfold plS; rw [cite_f e1]
          · have e4 : drv n v i := e3
            rw [if_neg e3, bi_t e4, cite_t e4, if_neg e1, if_neg e3])
    (fun nf x hI => ⟨x, by simp only [g_X2_comeToFields_L1, x0_number0 h, bd_some, go_out hn], hI⟩)
  refine ⟨dr, wa, sd, ?_, h2⟩
  rw [g_X2_comeToFields, show g_X2_comeToFields_L1 bN bC re FU 0 q1 q3 q2 = some (dr, sd, wa) from h1]; rfl
theorem x5_place (h : MB n v s) {fa : Nat → Int32} (hf : ∀ a, a < n → fa a = bi (Fx n v a)) (q : Nat → Int32) : ∃ pl, g_X5_layOpening_L1 s fa FU 0 q = some pl ∧ ∀ a, a < n → pl a = plS n v a := by
  have hn := h.1
  refine lpF (fun nf i x => g_X5_layOpening_L1 s fa nf (nI i) x) n (fun i x => ∀ a, a < i → x a = plS n v a) (fun x => ∀ a, a < n → x a = plS n v a) (by omega) q (fun a ha => by omega)
    (fun nf i x hi hI => ?_) (fun nf x hI => ⟨x, by simp only [g_X5_layOpening_L1, x5_n h, go_out hn], hI⟩)
  refine Or.inl ⟨upd x i (plS n v i), upd_to hI rfl, ?_⟩
  simp only [g_X5_layOpening_L1, x5_n h, go_on hn hi, x5_stays h hi (hf i hi), bd_some, ibi, x5_of1 h hi, x5_of3 h hi, g_X5_layOpening_J1, wrA_n (show i < 9 by omega) (show 9 < 2 ^ 31 by decide), nI_1]
  unfold plS stayP goS
  by_cases e1 : v i 2 = 1 <;> by_cases e2 : Fx n v i <;> simp [e1, e2, cite]
theorem fi_skip {i : Nat} {P : Nat → Prop} (h : ¬ P i) : fi (i + 1) P = fi i P := by
  rcases fi_cases i P with ⟨a, g1, g2, g3, g4⟩ | ⟨g3, g4⟩
  · rw [g4, fi_first (by omega) g2 g3]
  · rw [g4, fi_none]
    intro c hc
    by_cases e : c = i
    · rw [e]; exact h
    · exact g3 c (by omega)
theorem x5_driver (h : MB n v s) (hd : dist n v) {fa : Nat → Int32} (hf : ∀ a, a < n → fa a = bi (Fx n v a)) {q : Nat → Int32} (hq : ∀ a, a < n → q a = -1) : ∃ dr, g_X5_layOpening_L2 s fa FU 0 q = some dr ∧ ∀ a, a < n → dr a = drS n v a := by
  have hn := h.1
  have hstay : ∀ a, stayP v (Fx n v) a ↔ ¬ goS n v a := fun a => by
    unfold stayP goS
    by_cases e1 : v a 2 = 1 <;> by_cases e2 : Fx n v a <;> simp [e1, e2]
  refine lpF (fun nf i x => g_X5_layOpening_L2 s fa nf (nI i) x) n (fun i x => ∀ o, o < n → x o = cite (goS n v o) (-1) (fi i fun a => goS n v a ∧ v a 3 = v o 1)) (fun x => ∀ a, a < n → x a = drS n v a) (by omega) q (fun a ha => ?_)
    (fun nf i x hi hI => ?_) (fun nf x hI => ⟨x, by simp only [g_X5_layOpening_L2, x5_n h, go_out hn], hI⟩)
  · rw [hq a ha]
    by_cases e : goS n v a
    · rw [cite_t e]
    · rw [cite_f e]; rfl
  · have hsk : (¬ goS n v i ∨ ∀ o, o < n → ¬ goS n v o → ¬ v i 3 = v o 1) → ∀ o, o < n → x o = cite (goS n v o) (-1) (fi (i + 1) fun a => goS n v a ∧ v a 3 = v o 1) := fun hh o ho => by
      rw [hI o ho]
      by_cases e : goS n v o
      · rw [cite_t e, cite_t e]
      · rw [cite_f e, cite_f e, fi_skip]
        rintro ⟨g1, g2⟩
        exact hh.elim (fun q => q g1) (fun q => q o ho e g2)
    by_cases e1 : goS n v i
    · rcases on_cases hn hd (v i 3) with ⟨o, ho, e, hfo⟩ | ⟨e, hfo⟩
      · by_cases e2 : goS n v o
        · refine Or.inl ⟨x, hsk (Or.inr fun o' ho' hg e3 => ?_), ?_⟩
          · obtain rfl := hd o' o ho' ho (e3.symm.trans e.symm)
            exact hg e2
          · simp only [g_X5_layOpening_L2, x5_n h, go_on hn hi, x5_stays h hi (hf i hi), bd_some, bi_c (hstay i), ibi, x5_of3 h hi, x5_armyOn h hd, hfo, g_X5_layOpening_J2, if_neg (nI_m1 (show o < 2 ^ 31 by omega)), x5_stays h ho (hf o ho), bi_c (hstay o), nI_1]
            simp [e1, e2]
        · refine Or.inl ⟨upd x o (nI i), fun o' ho' => ?_, ?_⟩
          · by_cases q : o' = o
            · subst q
              rw [pk_us, cite_f e2, fi_one (by omega) ⟨e1, e.symm⟩ (fun c hc hq => go_one hn hd (by omega) hi hq.1 e1 (hq.2.trans e))]
            · rw [pk_un q, hI o' ho']
              by_cases e4 : goS n v o'
              · rw [cite_t e4, cite_t e4]
              · rw [cite_f e4, cite_f e4, fi_skip]
                rintro ⟨g1, g2⟩
                exact q (hd o' o ho' ho (g2.symm.trans e.symm))
          · simp only [g_X5_layOpening_L2, x5_n h, go_on hn hi, x5_stays h hi (hf i hi), bd_some, bi_c (hstay i), ibi, x5_of3 h hi, x5_armyOn h hd, hfo, g_X5_layOpening_J2, if_neg (nI_m1 (show o < 2 ^ 31 by omega)), x5_stays h ho (hf o ho), bi_c (hstay o), wrA_n (show o < 9 by omega) (show 9 < 2 ^ 31 by decide), nI_1]
            simp [e1, e2]
      · refine Or.inl ⟨x, hsk (Or.inr fun o' ho' hg e3 => e o' ho' e3.symm), ?_⟩
        simp only [g_X5_layOpening_L2, x5_n h, go_on hn hi, x5_stays h hi (hf i hi), bd_some, bi_c (hstay i), ibi, x5_of3 h hi, x5_armyOn h hd, hfo, g_X5_layOpening_J2, nI_1]
        simp [e1]
    · refine Or.inl ⟨x, hsk (Or.inl e1), ?_⟩
      simp only [g_X5_layOpening_L2, x5_n h, go_on hn hi, x5_stays h hi (hf i hi), bd_some, bi_c (hstay i), ibi, g_X5_layOpening_J2, nI_1]
      simp [e1]
end CO
