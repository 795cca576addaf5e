/-! p26: what holds of an army that is told to do something -/
section FC
variable {K n : Nat} {s : Nat → Int32} {v : Nat → Nat → Int32} {a : Nat}
theorem f_on (hok : okS K n s) (ha : a < n) : (fi n fun c => av s c 1 = av s a 1) = nI a := fi_one ha rfl (fun c hc e => hok.d c a hc ha e)
theorem nm_adj_all : ∀ f, f < 12 → ∀ t, t < 12 → (bt (nm (nI f)) t = true ↔ ¬ nb (nI f) (nI t) = 0) := by decide +kernel
theorem nm_adj {f t : Nat} (hf : f < 12) (ht : t < 12) (h : ¬ nb (nI f) (nI t) = 0) : (nm (nI f) >>> (nI t &&& 31)) &&& 1 = 1 := by
  rw [bit_at _ (show t < 32 by omega), if_pos ((nm_adj_all f hf t ht).mpr h)]
theorem wy_other (h : ¬ v a 2 = 1) : wyS n v a = 0 := by
  unfold wyS; rw [cite_f (fun q => h (Fx_in q).2)]
theorem go_notdrv (h : goS n v a) : ¬ drv n v a := fun q => q (by unfold drS; rw [cite_t h])
theorem run_keep (hn : n ≤ 9) : ∀ (k : Nat) (W : Nat → Prop) (pl : Nat → Int32), ¬ W a → run n v k W pl a = pl a := by
  intro k
  induction k with
  | zero => intro W pl _; rfl
  | succ k ih =>
    intro W pl h
    rcases mx_cases n W (dsN n v) with ⟨c, c1, c2, c3⟩ | ⟨c1, _⟩
    · have e : a ≠ c := fun e => h (by rw [e]; exact c2)
      rw [run_step (by omega) c3, ih _ _ (fun q => h q.1), pk_un e]
    · rw [run_none c1]
theorem rt_val (pl : Nat → Int32) : rtS n v pl a = -1 ∨ ∃ f, f < 12 ∧ rtS n v pl a = nI f ∧ ¬ nb (v a 1) (nI f) = 0 := by
  unfold rtS
  rcases fi_cases 12 (rtQ n v pl a) with ⟨f, h1, h2, _, h4⟩ | ⟨_, h4⟩
  · exact Or.inr ⟨f, h1, h4, h2.1⟩
  · exact Or.inl h4
theorem run_ret (hn : n ≤ 9) (ha : a < n) : ∀ (k : Nat) (W : Nat → Prop) (pl : Nat → Int32), num n W ≤ k → W a → run n v k W pl a = -1 ∨ ∃ f, f < 12 ∧ run n v k W pl a = nI f ∧ ¬ nb (v a 1) (nI f) = 0 := by
  intro k
  induction k with
  | zero => intro W pl hW h; exact absurd h (num_0 (Nat.le_zero.mp hW) a ha)
  | succ k ih =>
    intro W pl hW h
    rcases mx_cases n W (dsN n v) with ⟨c, c1, c2, c3⟩ | ⟨c1, _⟩
    · rw [run_step (by omega) c3]
      by_cases e : a = c
      · subst e
        rw [run_keep hn _ _ _ (fun q => q.2 rfl), pk_us]
        exact rt_val pl
      · exact ih _ _ (num_minus c1 c2 hW) ⟨h, e⟩
    · exact absurd h (c1 a ha)
theorem pf_go (hn : n ≤ 9) (h : goS n v a) : pfS n v a = v a 3 := by
  unfold pfS
  rw [run_keep hn _ _ _ (go_notdrv h)]
  unfold plS; rw [cite_t h]
theorem pf_stay (hn : n ≤ 9) (h : ¬ goS n v a) (h2 : ¬ drv n v a) : pfS n v a = v a 1 := by
  unfold pfS
  rw [run_keep hn _ _ _ h2]
  unfold plS; rw [cite_f h]
theorem pf_drv (hn : n ≤ 9) (ha : a < n) (h : drv n v a) : pfS n v a = -1 ∨ ∃ f, f < 12 ∧ pfS n v a = nI f ∧ ¬ nb (v a 1) (nI f) = 0 := by
  unfold pfS; exact run_ret hn ha n _ _ (num_le n _) h
theorem okS.hF (hok : okS K n s) : ∀ a, a < n → ∃ f, f < 12 ∧ av s a 1 = nI f := fun a ha => by
  obtain ⟨_, F, q1, q2, _⟩ := hok.arm ha
  exact ⟨F, q1, q2⟩
theorem okS.hT (hok : okS K n s) : ∀ a, a < n → av s a 2 = 1 → ∃ f, f < 12 ∧ av s a 3 = nI f := fun a ha h => by
  obtain ⟨_, F, q1, q2, q3⟩ := hok.arm ha
  rcases q3 with ⟨q4, _⟩ | ⟨_, ⟨t, t1, t2, _⟩, _⟩ | ⟨q4, _⟩
  · rw [q4] at h; exact absurd h (by decide)
  · exact ⟨t, t1, t2⟩
  · rw [q4] at h; exact absurd h (by decide)
theorem okS.pf (hok : okS K n s) : (∀ a, a < n → pfS n (av s) a = -1 ∨ ∃ f, f < 12 ∧ pfS n (av s) a = nI f) ∧ ∀ a b, a < n → b < n → a ≠ b → pfS n (av s) a = pfS n (av s) b → pfS n (av s) a = -1 := pf_facts hok.1 hok.d hok.hF hok.hT
theorem go_rs (hn : n ≤ 9) (hd : dist n v) (ha : a < n) (h : goS n v a) : rs n v (Fx n v) a = 0 := Classical.byContradiction fun q => h.2 (Fx_clo hn hd a ha h.1 q)
theorem go_noriv (hn : n ≤ 9) (hd : dist n v) (ha : a < n) (h : goS n v a) : ¬ rivP n v a := fun q => by
  have := go_rs hn hd ha h
  rw [rs_riv q] at this; exact absurd this (by decide)
/-- all others that move there are weaker, and have the army for a rival -/
theorem go_rival (hn : n ≤ 9) (hd : dist n v) (ha : a < n) (h : goS n v a) {b : Nat} (hb : b < n) (hne : ¬ b = a) (h2 : v b 2 = 1) (h3 : v b 3 = v a 3) : stN n v b < stN n v a ∧ wyS n v b = 1 := by
  have h1 : stN n v b < stN n v a := by
    refine Nat.lt_of_not_le (fun q => go_noriv hn hd ha h ⟨b, hb, hne, h2, h3, q⟩)
  have hr : rivP n v b := ⟨a, ha, fun e => hne e.symm, h.1, h3.symm, by omega⟩
  refine ⟨h1, ?_⟩
  unfold wyS
  rw [cite_t (Fx_clo hn hd b hb h2 (by rw [rs_riv hr]; decide)), rs_riv hr]
/-- who stands there goes, or is driven off -/
theorem go_there (hn : n ≤ 9) (hd : dist n v) (ha : a < n) (h : goS n v a) {o : Nat} (ho : o < n) (e : v o 1 = v a 3) : goS n v o ∨ (drv n v o ∧ ¬ v o 0 = v a 0 ∧ (if v o 2 = 1 then 1 else stN n v o) < stN n v a) := by
  by_cases hg : goS n v o
  · exact Or.inl hg
  · refine Or.inr ⟨fun q => ?_, ?_⟩
    · rw [dr_of hn hd hg ha h e.symm] at q
      exact nI_m1 (by omega) q
    · have hr := go_rs hn hd ha h
      unfold rs at hr
      rw [cite_f (go_noriv hn hd ha h), rsT_on hn hd ho e] at hr
      unfold rsO at hr
      have hs : ¬ swpP n v a o := fun q => by rw [cite_t q] at hr; exact absurd hr (by decide)
      have hst : stayP v (Fx n v) o := by
        by_cases h2 : v o 2 = 1
        · exact Or.inr (Classical.byContradiction fun q => hg ⟨h2, q⟩)
        · exact Or.inl h2
      rw [cite_f hs, cite_t hst] at hr
      unfold blk at hr
      by_cases h0 : v o 0 = v a 0
      · rw [if_pos h0] at hr; exact absurd hr (by decide)
      · rw [if_neg h0] at hr
        refine ⟨h0, Nat.lt_of_not_le (fun q => ?_)⟩
        rw [if_pos q] at hr; exact absurd hr (by decide)
theorem cnt_cut (h : cntQ n v a) : ¬ cutQ n v a := fun q => h.2.2 q.2
end FC
