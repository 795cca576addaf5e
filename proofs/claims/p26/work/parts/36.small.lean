/-! small calls: army, drop, hold, move, support, undo, keep, restore, the buffer -/
theorem x5_holds0 (th : Int32) : g_X5_holds th 0 = some (1, 0) := rfl
theorem x5_holds1 (th : Int32) : g_X5_holds th 1 = some (0, 1) := rfl
theorem x5_holds2 (th : Int32) : g_X5_holds th 2 = some (0, 2) := rfl
theorem t10 : ¬ (1 : Int32) = 0 := by decide
theorem t20 : ¬ (2 : Int32) = 0 := by decide
/-- a number between 0 and m -/
theorem in_rng (x M : Int32) {m : Nat} (hm : m < 1000) (hM : M = nI m) : (x < 0 ∧ g_X5_in x 0 M = some 0) ∨ (¬ x < 0 ∧ nI (m + 1) ≤ x ∧ g_X5_in x 0 M = some 0) ∨ ∃ j, j ≤ m ∧ x = nI j ∧ g_X5_in x 0 M = some 1 := by
  subst hM
  rcases pk_ix x (n := m + 1) (by omega) with h | h | ⟨j, hj, rfl⟩
  · exact Or.inl ⟨h, by rw [g_X5_in, if_pos h]⟩
  · by_cases h0 : x < 0
    · exact Or.inl ⟨h0, by rw [g_X5_in, if_pos h0]⟩
    · obtain ⟨j, hj, rfl⟩ := nI_of h0
      have h2 : m + 1 ≤ j := (nI_leI (by omega) hj).mp h
      exact Or.inr (Or.inl ⟨h0, h, by rw [g_X5_in, if_neg h0, if_pos (nI_lt (by omega) hj)]⟩)
  · exact Or.inr (Or.inr ⟨j, by omega, rfl, by rw [g_X5_in, if_neg (nI_pos (by omega)), if_neg (nI_nlt (by omega) (by omega))]⟩)
theorem is_seat (x : Int32) : (g_X4_isSeat x = some 0 ∧ g_X5_isSeat x = some 0) ∨ ∃ j, j < 3 ∧ x = nI j ∧ g_X4_isSeat x = some 1 ∧ g_X5_isSeat x = some 1 := by
  rcases in_rng x 2 (m := 2) (by decide) rfl with ⟨h, e⟩ | ⟨h0, h, e⟩ | ⟨j, hj, rfl, e⟩
  · exact Or.inl ⟨by rw [g_X4_isSeat, if_pos h], by rw [g_X5_isSeat, e]; rfl⟩
  · exact Or.inl ⟨by rw [g_X4_isSeat, if_neg h0, if_pos (show (3 : Int32) ≤ x from h)], by rw [g_X5_isSeat, e]; rfl⟩
  · exact Or.inr ⟨j, by omega, rfl, by rw [g_X4_isSeat, if_neg (nI_pos (by omega)), past (M := 3) 3 rfl (by omega) (by decide)], by rw [g_X5_isSeat, e]; rfl⟩
theorem is_field (x : Int32) : (g_X4_isField x = some 0 ∧ g_X5_isField x = some 0) ∨ ∃ j, j < 12 ∧ x = nI j ∧ g_X4_isField x = some 1 ∧ g_X5_isField x = some 1 := by
  rcases in_rng x 11 (m := 11) (by decide) rfl with ⟨h, e⟩ | ⟨h0, h, e⟩ | ⟨j, hj, rfl, e⟩
  · exact Or.inl ⟨by rw [g_X4_isField, if_pos h], by rw [g_X5_isField, e]; rfl⟩
  · exact Or.inl ⟨by rw [g_X4_isField, if_neg h0, if_pos (show (12 : Int32) ≤ x from h)], by rw [g_X5_isField, e]; rfl⟩
  · exact Or.inr ⟨j, by omega, rfl, by rw [g_X4_isField, if_neg (nI_pos (by omega)), past (M := 12) 12 rfl (by omega) (by decide)], by rw [g_X5_isField, e]; rfl⟩
theorem is_army {n : Nat} {v : Nat → Nat → Int32} {bN bC s : Nat → Int32} (h : CB n v bN bC) (h' : MB n v s) (x : Int32) : (g_X0_hasArmy bN x = some 0 ∧ g_X5_isArmy s x = some 0) ∨ ∃ a, a < n ∧ x = nI a ∧ g_X0_hasArmy bN x = some 1 ∧ g_X5_isArmy s x = some 1 := by
  have hn := h.1
  have e : ∀ k, g_X5_in x 0 (nI n - 1) = some k → g_X5_isArmy s x = some k := fun k hk => by
    rw [g_X5_isArmy, r77_9, h'.2.1, hk]; rfl
  by_cases h0 : x < 0
  · exact Or.inl ⟨by rw [g_X0_hasArmy, if_pos h0], e 0 (by rw [g_X5_in, if_pos h0])⟩
  · obtain ⟨j, hj, rfl⟩ := nI_of h0
    by_cases hjn : j < n
    · refine Or.inr ⟨j, hjn, rfl, ?_, e 1 ?_⟩
      · rw [g_X0_hasArmy, if_neg h0, x0_number0 h, bd_some, go_on hn hjn]
      · rw [pk_pred (by omega), g_X5_in, if_neg h0, if_neg (nI_nlt (by omega) (by omega))]
    · refine Or.inl ⟨?_, e 0 ?_⟩
      · rw [g_X0_hasArmy, if_neg h0, x0_number0 h, bd_some, if_pos (nI_le (by omega) hj)]
      · by_cases hn0 : n = 0
        · subst hn0
          rw [g_X5_in, if_neg h0, if_pos]
          rw [Int32.lt_iff_toInt_lt, nI_toInt hj, show (nI 0 - 1 : Int32).toInt = -1 from by decide]
          omega
        · rw [pk_pred (by omega), g_X5_in, if_neg h0, if_pos (nI_lt (by omega) hj)]
theorem nb_adj_all : ∀ f, f < 12 → ∀ t, t < 12 → (¬ (g_X4_areNeighbours (nI f) (nI t)).getD 0 = 0 ↔ adjN f t) := by
  unfold adjN; decide +kernel
theorem nb_adj {f t : Nat} (hf : f < 12) (ht : t < 12) : ¬ nb (nI f) (nI t) = 0 ↔ adjN f t := nb_adj_all f hf t ht
section SM
variable {K n : Nat} {bN bO bC s : Nat → Int32} {a : Nat}
theorem okS.sb (h : okS K n s) (hE : eqB n bN bO bC s) : SB n bN bO bC s := ⟨h.1, h.2.1, hE⟩
theorem okS.d (h : okS K n s) : dist n (av s) := h.2.2.2.2.2.2
theorem okS.arm (h : okS K n s) (ha : a < n) : okA s a := h.2.2.2.2.2.1 a ha
/-- a row whose first numbers stay -/
theorem okS_of {m : Nat} {s' : Nat → Int32} (h : okS K n s) (hm : m ≤ 9) (h9 : s' 9 = nI m) (hs : ∀ j, j < 14 → j ≠ 9 → s' j = s j) (hA : ∀ a, a < m → okA s' a) (hd : ∀ a b, a < m → b < m → av s' a 1 = av s' b 1 → a = b) : okS K m s' := by
  obtain ⟨h1, h2, h3, ⟨a, b, ha, hb, e3, e4⟩, h5, _, _⟩ := h
  exact ⟨hm, h9, by rw [hs 1 (by decide) (by decide)]; exact h3, ⟨a, b, ha, hb, by rw [hs 3 (by decide) (by decide)]; exact e3, by rw [hs 4 (by decide) (by decide)]; exact e4⟩, fun k hk => by rw [hs _ (by omega) (by omega)]; exact h5 k hk, hA, hd⟩
theorem RB_goes (h : okS K n s) (hE : eqB n bN bO bC s) (ha : a < n) : ∃ C' s', g_X0_remove bN bC (nI a) = some (upd bN 0 (nI (n - 1)), C') ∧ g_X5_goes s (nI a) = some s' ∧ okS K (n - 1) s' ∧ eqB (n - 1) (upd bN 0 (nI (n - 1))) bO C' s' ∧ (∀ j, j < 14 → j ≠ 9 → s' j = s j) ∧ ∀ b w, b < n - 1 → w < 7 → av s' b w = av s (if b < a then b else b + 1) w := by
  obtain ⟨C', s', h1, h2, h3, h4, h5⟩ := (h.sb hE).goes ha
  have hn := h.1
  refine ⟨C', s', h1, h2, okS_of h (by omega) h3.2.1 h4 (fun b hb => ?_) (fun b c hb hc e => ?_), h3.2.2, h4, h5⟩
  · exact okA_c (a := if b < a then b else b + 1) (fun w hw => h5 b w hb (by omega)) (h.arm (by split <;> omega))
  · rw [h5 b 1 hb (by decide), h5 c 1 hc (by decide)] at e
    have := h.d _ _ (by split <;> omega) (by split <;> omega) e
    split at this <;> split at this <;> omega
theorem RB_sets (h : okS K n s) (hE : eqB n bN bO bC s) (hn : n < 9) {q f : Nat} (hq : q < 3) (hf : f < 12) (hno : ∀ b, b < n → ¬ av s b 1 = nI f) : ∃ C' s', g_X0_setUp bN bC (nI q) (nI f) = some (nI n, upd bN 0 (nI (n + 1)), C') ∧ g_X5_sets s (nI q) (nI f) = some s' ∧ okS K (n + 1) s' ∧ eqB (n + 1) (upd bN 0 (nI (n + 1))) bO C' s' ∧ (∀ j, j < 14 → j ≠ 9 → s' j = s j) := by
  obtain ⟨C', s', h1, h2, h3, h4, h5, h6⟩ := (h.sb hE).sets hn (nI q) (nI f)
  have e0 : av s' n 0 = nI q := h6 0 (by decide)
  have e1 : av s' n 1 = nI f := h6 1 (by decide)
  have e2 : av s' n 2 = 0 := h6 2 (by decide)
  have e3 : av s' n 3 = -1 := h6 3 (by decide)
  have e4 : av s' n 4 = -1 := h6 4 (by decide)
  refine ⟨C', s', h1, h2, okS_of h (by omega) h3.2.1 h4 (fun b hb => ?_) (fun b c hb hc e => ?_), h3.2.2, h4⟩
  · by_cases e : b = n
    · subst e
      exact ⟨⟨q, hq, e0⟩, f, hf, e1, Or.inl ⟨e2, e3, e4⟩⟩
    · exact okA_c (fun w hw => h5 b w (by omega) (by omega)) (h.arm (by omega))
  · by_cases eb : b = n
    · by_cases ec : c = n
      · omega
      · rw [eb, e1, h5 c 1 (by omega) (by decide)] at e
        exact absurd e.symm (hno c (by omega))
    · by_cases ec : c = n
      · rw [ec, e1, h5 b 1 (by omega) (by decide)] at e
        exact absurd e (hno b (by omega))
      · rw [h5 b 1 (by omega) (by decide), h5 c 1 (by omega) (by decide)] at e
        exact h.d b c (by omega) (by omega) e
/-- an order that is possible -/
def okOrd (s : Nat → Int32) (a : Nat) (k t g : Int32) : Prop := ∀ f, f < 12 → av s a 1 = nI f → (k = 0 ∧ t = -1 ∧ g = -1) ∨ (k = 1 ∧ (∃ u, u < 12 ∧ t = nI u ∧ adjN f u) ∧ g = -1) ∨ (k = 2 ∧ (∃ u, u < 12 ∧ t = nI u ∧ adjN f u) ∧ ∃ u, u < 12 ∧ g = nI u)
theorem av_lay {b w : Nat} {k t g : Int32} (hb : b ≠ a) (hw : w < 7) : av (lay3 s (14 + 7 * a) k t g) b w = av s b w := by
  unfold av; exact lay3_un (by omega) (by omega) (by omega)
theorem av_lay_u {w : Nat} {k t g : Int32} (h2 : w ≠ 2) (h3 : w ≠ 3) (h4 : w ≠ 4) : av (lay3 s (14 + 7 * a) k t g) a w = av s a w := by
  unfold av; exact lay3_un (by omega) (by omega) (by omega)
theorem okS_lay (h : okS K n s) (ha : a < n) {k t g : Int32} (ho : okOrd s a k t g) : okS K n (lay3 s (14 + 7 * a) k t g) := by
  have h1 : ∀ b w, w < 2 → av (lay3 s (14 + 7 * a) k t g) b w = av s b w := fun b w hw => by
    by_cases e : b = a
    · rw [e]; exact av_lay_u (by omega) (by omega) (by omega)
    · exact av_lay e (by omega)
  refine okS_of h h.1 (by rw [lay3_un (by omega) (by omega) (by omega)]; exact h.2.1) (fun j hj _ => lay3_un (by omega) (by omega) (by omega)) (fun b hb => ?_) (fun b c hb hc e => ?_)
  · by_cases e : b = a
    · subst e
      obtain ⟨⟨q, hq, e0⟩, f, hf, e1, _⟩ := h.arm hb
      refine ⟨⟨q, hq, by rw [h1 b 0 (by decide)]; exact e0⟩, f, hf, by rw [h1 b 1 (by decide)]; exact e1, ?_⟩
      have e2 : av (lay3 s (14 + 7 * b) k t g) b 2 = k := lay3_2
      have e3 : av (lay3 s (14 + 7 * b) k t g) b 3 = t := lay3_3
      have e4 : av (lay3 s (14 + 7 * b) k t g) b 4 = g := lay3_4
      rw [e2, e3, e4]
      exact ho f hf e1
    · exact okA_c (fun w hw => av_lay e (by omega)) (h.arm hb)
  · rw [h1 b 1 (by decide), h1 c 1 (by decide)] at e
    exact h.d b c hb hc e
theorem RB_lay (h : okS K n s) (hE : eqB n bN bO bC s) (ha : a < n) {k t g : Int32} (ho : okOrd s a k t g) : RB K bN bO (lay3 bC (7 * a) k t g) (lay3 s (14 + 7 * a) k t g) :=
  ⟨n, okS_lay h ha ho, ((h.sb hE).lay ha k t g).2.2⟩
end SM
theorem x5_ordered {n : Nat} {s ss ss' : Nat → Int32} {sm sm' : Int32} {a : Nat} (h : MB n (av s) s) (ha : a < n) (g2 : g_X5_save sm s ss = some (sm', ss')) (k t g : Int32) : g_X5_ordered sm s ss (nI a) k t g = some (av s a 2, sm', lay3 s (14 + 7 * a) k t g, ss') := by
  have := h.1
  rw [g_X5_ordered, g2, b2_some, x5_of2 h ha, bd_some, x5_lays (by omega), bd_some]
theorem x0_giveS {n : Nat} {bN bO bC s : Nat → Int32} {a : Nat} (h : SB n bN bO bC s) (ha : a < n) (k f t : Int32) : g_X0_give bC (nI a) k f t = some (av s a 2, lay3 bC (7 * a) k (if k = 0 then -1 else t) (if k = 2 then f else -1)) := by
  have := h.1
  rw [x0_give (by omega), h.cb.2.2 a 2 ha (by decide)]
theorem x0_can {n : Nat} {bN bO bC s : Nat → Int32} {a : Nat} (h : SB n bN bO bC s) (hp : g_X0_hasArmy bN (nI a) = some 1) (ha : a < n) {k : Int32} (hk : ¬ k = 0) (f t : Int32) : g_X0_canBeGiven bN bC (nI a) k f t = some (bi (¬ nb (av s a 1) t = 0 ∧ (k = 1 ∨ f = t ∨ ¬ nb f t = 0))) := by
  rw [g_X0_canBeGiven, hp, bd_some, if_neg t10, if_neg hk, x0_of1 h.cb ha, bd_some, x4_nb, bd_some, x4_nb, bd_some]
  by_cases e1 : nb (av s a 1) t = 0 <;> by_cases e2 : k = 1 <;> by_cases e3 : f = t <;> by_cases e4 : nb f t = 0 <;> simp [e1, e2, e3, e4, bi]
theorem x5_can {n : Nat} {s : Nat → Int32} {a : Nat} (h : MB n (av s) s) (ha : a < n) (f t : Int32) : g_X5_canSupport s (nI a) f t = some (bi (¬ nb (av s a 1) t = 0 ∧ (f = t ∨ ¬ nb f t = 0))) := by
  rw [g_X5_canSupport, x5_of1 h ha, bd_some, x5_nb, bd_some, x5_nb, bd_some]
  by_cases e1 : nb (av s a 1) t = 0 <;> by_cases e3 : f = t <;> by_cases e4 : nb f t = 0 <;> simp [e1, e3, e4, bi]
