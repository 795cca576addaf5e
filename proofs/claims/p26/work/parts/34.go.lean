/-! armies that go, armies that come -/
theorem r77 {α : Type} {f : Nat → Int32} {k : Int32 → Option α} (j : Nat) (h : j < 77) : rdA f 77 (nI j) k = k (f j) := rdA_n h (by decide)
theorem w77 {α : Type} {f : Nat → Int32} {x : Int32} {k : (Nat → Int32) → Option α} (j : Nat) (h : j < 77) : wrA f 77 (nI j) x k = k (upd f j x) := wrA_n h (by decide)
theorem r77_0 {α : Type} {f : Nat → Int32} {k : Int32 → Option α} : rdA f 77 0 k = k (f 0) := r77 0 (by decide)
theorem r77_1 {α : Type} {f : Nat → Int32} {k : Int32 → Option α} : rdA f 77 1 k = k (f 1) := r77 1 (by decide)
theorem r77_2 {α : Type} {f : Nat → Int32} {k : Int32 → Option α} : rdA f 77 2 k = k (f 2) := r77 2 (by decide)
theorem r77_3 {α : Type} {f : Nat → Int32} {k : Int32 → Option α} : rdA f 77 3 k = k (f 3) := r77 3 (by decide)
theorem r77_4 {α : Type} {f : Nat → Int32} {k : Int32 → Option α} : rdA f 77 4 k = k (f 4) := r77 4 (by decide)
theorem r77_5 {α : Type} {f : Nat → Int32} {k : Int32 → Option α} : rdA f 77 5 k = k (f 5) := r77 5 (by decide)
theorem r77_6 {α : Type} {f : Nat → Int32} {k : Int32 → Option α} : rdA f 77 6 k = k (f 6) := r77 6 (by decide)
theorem r77_7 {α : Type} {f : Nat → Int32} {k : Int32 → Option α} : rdA f 77 7 k = k (f 7) := r77 7 (by decide)
theorem r77_8 {α : Type} {f : Nat → Int32} {k : Int32 → Option α} : rdA f 77 8 k = k (f 8) := r77 8 (by decide)
theorem r77_9 {α : Type} {f : Nat → Int32} {k : Int32 → Option α} : rdA f 77 9 k = k (f 9) := r77 9 (by decide)
theorem w77_0 {α : Type} {f : Nat → Int32} {x : Int32} {k : (Nat → Int32) → Option α} : wrA f 77 0 x k = k (upd f 0 x) := w77 0 (by decide)
theorem w77_1 {α : Type} {f : Nat → Int32} {x : Int32} {k : (Nat → Int32) → Option α} : wrA f 77 1 x k = k (upd f 1 x) := w77 1 (by decide)
theorem w77_2 {α : Type} {f : Nat → Int32} {x : Int32} {k : (Nat → Int32) → Option α} : wrA f 77 2 x k = k (upd f 2 x) := w77 2 (by decide)
theorem w77_3 {α : Type} {f : Nat → Int32} {x : Int32} {k : (Nat → Int32) → Option α} : wrA f 77 3 x k = k (upd f 3 x) := w77 3 (by decide)
theorem w77_4 {α : Type} {f : Nat → Int32} {x : Int32} {k : (Nat → Int32) → Option α} : wrA f 77 4 x k = k (upd f 4 x) := w77 4 (by decide)
theorem w77_5 {α : Type} {f : Nat → Int32} {x : Int32} {k : (Nat → Int32) → Option α} : wrA f 77 5 x k = k (upd f 5 x) := w77 5 (by decide)
theorem w77_6 {α : Type} {f : Nat → Int32} {x : Int32} {k : (Nat → Int32) → Option α} : wrA f 77 6 x k = k (upd f 6 x) := w77 6 (by decide)
theorem w77_7 {α : Type} {f : Nat → Int32} {x : Int32} {k : (Nat → Int32) → Option α} : wrA f 77 7 x k = k (upd f 7 x) := w77 7 (by decide)
theorem w77_8 {α : Type} {f : Nat → Int32} {x : Int32} {k : (Nat → Int32) → Option α} : wrA f 77 8 x k = k (upd f 8 x) := w77 8 (by decide)
theorem w77_9 {α : Type} {f : Nat → Int32} {x : Int32} {k : (Nat → Int32) → Option α} : wrA f 77 9 x k = k (upd f 9 x) := w77 9 (by decide)
theorem x5_at (a w : Nat) : g_X5_at (nI a) (nI w) = some (nI (14 + 7 * a + w)) := by unfold g_X5_at; rw [at_ix]
theorem x5_at0 (a : Nat) : g_X5_at (nI a) 0 = some (nI (14 + 7 * a)) := x5_at a 0
theorem x5_at1 (a : Nat) : g_X5_at (nI a) 1 = some (nI (14 + 7 * a + 1)) := x5_at a 1
theorem x5_at5 (a : Nat) : g_X5_at (nI a) 5 = some (nI (14 + 7 * a + 5)) := x5_at a 5
theorem x5_at6 (a : Nat) : g_X5_at (nI a) 6 = some (nI (14 + 7 * a + 6)) := x5_at a 6
theorem pk_pred {a : Nat} (h : 0 < a) : nI a - 1 = nI (a - 1) := pk_sub (b := 1) h
section GO
variable {n : Nat} {bN bO bC s : Nat → Int32} {a : Nat} {v : Nat → Nat → Int32}
theorem x5_goes (h : MB n v s) (ha : a < n) : ∃ s', g_X5_goes s (nI a) = some s' ∧ s' 9 = nI (n - 1) ∧ (∀ j, j < 14 → j ≠ 9 → s' j = s j) ∧ ∀ b w, b < n - 1 → w < 7 → s' (14 + 7 * b + w) = s (14 + 7 * (if b < a then b else b + 1) + w) := by
  have hn := h.1
  obtain ⟨s1, h1, h2, h3, h4⟩ := lp (fun nf i f => g_X5_goes_L1 nf (nI i) f) (14 + 7 * (n - 1)) (fun i f => 14 + 7 * a ≤ i ∧ f 9 = nI (n - 1) ∧ (∀ j, 14 + 7 * a ≤ j → j < i → f j = s (j + 7)) ∧ (∀ j, j ≠ 9 → j < 14 + 7 * a ∨ i ≤ j → f j = s j)) (fun f => f 9 = nI (n - 1) ∧ (∀ j, 14 + 7 * a ≤ j → j < 14 + 7 * (n - 1) → f j = s (j + 7)) ∧ (∀ j, j ≠ 9 → j < 14 + 7 * a → f j = s j))
    (fun nf i f hi hI => by
      obtain ⟨i0, i1, i2, i3⟩ := hI
      refine Or.inl ⟨upd f i (f (i + 7)), ⟨by omega, by rw [pk_un (by omega)]; exact i1, fun j hj1 hj2 => ?_, fun j hj1 hj2 => ?_⟩, ?_⟩
      · by_cases e : j = i
        · rw [e, pk_us]; exact i3 _ (by omega) (Or.inr (by omega))
        · rw [pk_un e]; exact i2 j hj1 (by omega)
      · rw [pk_un (by omega)]; exact i3 j hj1 (by omega)
      · have e7 : nI i + 7 = nI (i + 7) := nI_add i 7
        rw [g_X5_goes_L1, r77_9, i1, x5_at0, bd_some, if_neg (nI_ge hi (by omega)), e7, r77 (i + 7) (by omega), w77 i (by omega), nI_1])
    (fun nf f hI => ⟨f, by rw [g_X5_goes_L1, r77_9, hI.2.1, x5_at0, bd_some, if_pos (nI_le (Nat.le_refl _) (by omega))], hI.2.1, hI.2.2.1, fun j h1 h2 => hI.2.2.2 j h1 (Or.inl h2)⟩)
    (n - 1 - a + 6 * (n - 1 - a)) FU (14 + 7 * a) (upd s 9 (nI (n - 1))) (by omega) (by show _ < 5000; omega) ⟨Nat.le_refl _, pk_us, fun j h1 h2 => by omega, fun j h1 _ => pk_un h1⟩
  obtain ⟨s2, h5, h6, h7⟩ := lpF (fun nf i f => g_X5_goes_L2 nf (nI i) f) 7 (fun i f => f 9 = nI (n - 1) ∧ ∀ j, j < 14 + 7 * (n - 1) → f j = s1 j) (fun f => f 9 = nI (n - 1) ∧ ∀ j, j < 14 + 7 * (n - 1) → f j = s1 j) (by decide) s1 ⟨h2, fun j _ => rfl⟩
    (fun nf i f hi hI => by
      refine Or.inl ⟨upd f (14 + 7 * (n - 1) + i) 0, ⟨by rw [pk_un (by omega)]; exact hI.1, fun j hj => by rw [pk_un (by omega)]; exact hI.2 j hj⟩, ?_⟩
      rw [g_X5_goes_L2, past (M := 7) 7 rfl hi (by decide), r77_9, hI.1, x5_at, bd_some, w77 _ (by omega), nI_1])
    (fun nf f hI => ⟨f, by rw [g_X5_goes_L2, pastE (M := 7) 7 rfl (Nat.le_refl _) (by decide)], hI⟩)
  refine ⟨s2, ?_, h6, fun j hj1 hj2 => ?_, fun b w hb hw => ?_⟩
  · rw [g_X5_goes, r77_9, h.2.1, w77_9, x5_at0, bd_some, pk_pred (by omega)]
    show ((g_X5_goes_L1 FU (nI (14 + 7 * a)) (upd s 9 (nI (n - 1)))).bind _) = _
    rw [show g_X5_goes_L1 FU (nI (14 + 7 * a)) (upd s 9 (nI (n - 1))) = some s1 from h1, bd_some, show g_X5_goes_L2 FU 0 s1 = some s2 from h5]; rfl
  · rw [h7 j (by omega), h4 j hj2 (by omega)]
  · rw [h7 _ (by omega)]
    by_cases e : b < a
    · rw [if_pos e, h4 _ (by omega) (by omega)]
    · rw [if_neg e, h3 _ (by omega) (by omega), show 14 + 7 * b + w + 7 = 14 + 7 * (b + 1) + w by omega]
theorem x5_sets (h : MB n v s) (hn : n < 9) (x y : Int32) : g_X5_sets s x y = some (lay3 (upd (upd (upd (upd (upd s 9 (nI (n + 1))) (14 + 7 * n) x) (14 + 7 * n + 1) y) (14 + 7 * n + 5) 0) (14 + 7 * n + 6) 0) (14 + 7 * n) 0 (-1) (-1)) := by
  rw [g_X5_sets, r77_9, r77_9, w77_9, h.2.1, nI_1, x5_at0, bd_some, w77 (14 + 7 * n) (by omega), x5_at1, bd_some, w77 (14 + 7 * n + 1) (by omega), x5_at5, bd_some, w77 (14 + 7 * n + 5) (by omega), x5_at6, bd_some, w77 (14 + 7 * n + 6) (by omega), x5_lays hn, bd_some]
theorem x0_setUp (h : CB n v bN bC) (hn : n < 9) (x y : Int32) : g_X0_setUp bN bC x y = some (nI n, upd bN 0 (nI (n + 1)), upd (upd (lay3 (upd (upd bC (7 * n) x) (7 * n + 1) y) (7 * n) 0 (-1) (-1)) (7 * n + 5) 0) (7 * n + 6) 0) := by
  have p : ∀ (w : Nat) {g : Nat → Int32} {x : Int32}, w < 7 → g_X0_put g (nI n) (nI w) x = some (upd g (7 * n + w) x) := fun w {g x} hw => x0_put (by omega)
  have p0 : ∀ {g : Nat → Int32} {x : Int32}, g_X0_put g (nI n) 0 x = some (upd g (7 * n) x) := fun {g x} => p 0 (by decide)
  have p1 : ∀ {g : Nat → Int32} {x : Int32}, g_X0_put g (nI n) 1 x = some (upd g (7 * n + 1) x) := fun {g x} => p 1 (by decide)
  have p2 : ∀ {g : Nat → Int32} {x : Int32}, g_X0_put g (nI n) 2 x = some (upd g (7 * n + 2) x) := fun {g x} => p 2 (by decide)
  have p3 : ∀ {g : Nat → Int32} {x : Int32}, g_X0_put g (nI n) 3 x = some (upd g (7 * n + 3) x) := fun {g x} => p 3 (by decide)
  have p4 : ∀ {g : Nat → Int32} {x : Int32}, g_X0_put g (nI n) 4 x = some (upd g (7 * n + 4) x) := fun {g x} => p 4 (by decide)
  have p5 : ∀ {g : Nat → Int32} {x : Int32}, g_X0_put g (nI n) 5 x = some (upd g (7 * n + 5) x) := fun {g x} => p 5 (by decide)
  have p6 : ∀ {g : Nat → Int32} {x : Int32}, g_X0_put g (nI n) 6 x = some (upd g (7 * n + 6) x) := fun {g x} => p 6 (by decide)
  have pe : g_X4_enter 10 bN 0 (nI (n + 1)) = some (upd bN 0 (nI (n + 1))) := x4_enterN (a := 0) (by decide) (by decide)
  unfold lay3
  rw [g_X0_setUp, x0_number0 h, bd_some, p0, bd_some, p1, bd_some, p2, bd_some, p3, bd_some, p4, bd_some, p5, bd_some, p6, bd_some, nI_1, pe, bd_some]
/-- an army that came -/
def sev (x y : Int32) (w : Nat) : Int32 := if w = 0 then x else if w = 1 then y else if w = 3 then -1 else if w = 4 then -1 else 0
theorem SB.sets (h : SB n bN bO bC s) (hn : n < 9) (x y : Int32) : ∃ C' s', g_X0_setUp bN bC x y = some (nI n, upd bN 0 (nI (n + 1)), C') ∧ g_X5_sets s x y = some s' ∧ SB (n + 1) (upd bN 0 (nI (n + 1))) bO C' s' ∧ (∀ j, j < 14 → j ≠ 9 → s' j = s j) ∧ (∀ b w, b < n → w < 7 → av s' b w = av s b w) ∧ ∀ w, w < 7 → av s' n w = sev x y w := by
  have hs1 : ∀ j, j < 14 → j ≠ 9 → lay3 (upd (upd (upd (upd (upd s 9 (nI (n + 1))) (14 + 7 * n) x) (14 + 7 * n + 1) y) (14 + 7 * n + 5) 0) (14 + 7 * n + 6) 0) (14 + 7 * n) 0 (-1) (-1) j = s j := fun j hj h9 => by
    rw [lay3_un (by omega) (by omega) (by omega), pk_un (by omega), pk_un (by omega), pk_un (by omega), pk_un (by omega), pk_un h9]
  have hs2 : ∀ b w, b < n → w < 7 → lay3 (upd (upd (upd (upd (upd s 9 (nI (n + 1))) (14 + 7 * n) x) (14 + 7 * n + 1) y) (14 + 7 * n + 5) 0) (14 + 7 * n + 6) 0) (14 + 7 * n) 0 (-1) (-1) (14 + 7 * b + w) = s (14 + 7 * b + w) := fun b w hb hw => by
    rw [lay3_un (by omega) (by omega) (by omega), pk_un (by omega), pk_un (by omega), pk_un (by omega), pk_un (by omega), pk_un (by omega)]
  have hs3 : ∀ w, w < 7 → lay3 (upd (upd (upd (upd (upd s 9 (nI (n + 1))) (14 + 7 * n) x) (14 + 7 * n + 1) y) (14 + 7 * n + 5) 0) (14 + 7 * n + 6) 0) (14 + 7 * n) 0 (-1) (-1) (14 + 7 * n + w) = sev x y w := fun w hw => by
    rcases (show w = 0 ∨ w = 1 ∨ w = 2 ∨ w = 3 ∨ w = 4 ∨ w = 5 ∨ w = 6 by omega) with rfl | rfl | rfl | rfl | rfl | rfl | rfl <;> simp [lay3, upd, sev]
  have hc2 : ∀ b w, b < n → w < 7 → upd (upd (lay3 (upd (upd bC (7 * n) x) (7 * n + 1) y) (7 * n) 0 (-1) (-1)) (7 * n + 5) 0) (7 * n + 6) 0 (7 * b + w) = bC (7 * b + w) := fun b w hb hw => by
    rw [pk_un (by omega), pk_un (by omega), lay3_un (by omega) (by omega) (by omega), pk_un (by omega), pk_un (by omega)]
  have hc3 : ∀ w, w < 7 → upd (upd (lay3 (upd (upd bC (7 * n) x) (7 * n + 1) y) (7 * n) 0 (-1) (-1)) (7 * n + 5) 0) (7 * n + 6) 0 (7 * n + w) = sev x y w := fun w hw => by
    rcases (show w = 0 ∨ w = 1 ∨ w = 2 ∨ w = 3 ∨ w = 4 ∨ w = 5 ∨ w = 6 by omega) with rfl | rfl | rfl | rfl | rfl | rfl | rfl <;> simp [lay3, upd, sev]
  refine ⟨_, _, x0_setUp h.cb hn x y, x5_sets h.mb hn x y, ?_, hs1, hs2, hs3⟩
  obtain ⟨h1, h2, h3, h4, h5, h6, h7⟩ := h
  refine ⟨by omega, ?_, ?_, fun k hk => ?_, fun k hk => ?_, h6, fun b w hb hw => ?_⟩
  · rw [lay3_un (by omega) (by omega) (by omega), pk_un (by omega), pk_un (by omega), pk_un (by omega), pk_un (by omega), pk_us]
  · rw [pk_us, lay3_un (by omega) (by omega) (by omega), pk_un (by omega), pk_un (by omega), pk_un (by omega), pk_un (by omega), pk_us]
  · rw [pk_un (by omega), h4 k hk, hs1 k (by omega) (by omega)]
  · rw [h5 k hk, hs1 _ (by omega) (by omega)]
  · by_cases e : b = n
    · rw [e, hc3 w hw]; exact (hs3 w hw).symm
    · rw [hc2 b w (by omega) hw, h7 b w (by omega) hw]; exact (hs2 b w (by omega) hw).symm
/-- an army that went; the numbers that are compared may be others than those that are kept, but for how many there are -/
theorem SB.goes2 {N : Nat → Int32} (h : SB n bN bO bC s) (hc : CB n (av s) N bC) (ha : a < n) : ∃ C' s', g_X0_remove N bC (nI a) = some (upd N 0 (nI (n - 1)), C') ∧ g_X5_goes s (nI a) = some s' ∧ SB (n - 1) (upd bN 0 (nI (n - 1))) bO C' s' ∧ (∀ j, j < 14 → j ≠ 9 → s' j = s j) ∧ ∀ b w, b < n - 1 → w < 7 → av s' b w = av s (if b < a then b else b + 1) w := by
  obtain ⟨C', g1, g2⟩ := x0_remove hc ha
  obtain ⟨s', g3, g4, g5, g6⟩ := x5_goes h.mb ha
  refine ⟨C', s', g1, g3, ?_, g5, g6⟩
  obtain ⟨h1, h2, h3, h4, h5, h6, h7⟩ := h
  refine ⟨by omega, g4, by rw [pk_us, g4], fun k hk => by rw [pk_un (by omega), h4 k hk, g5 k (by omega) (by omega)], fun k hk => by rw [h5 k hk, g5 _ (by omega) (by omega)], h6, fun b w hb hw => ?_⟩
  rw [g2 b w hb hw]
  unfold av
  rw [g6 b w hb hw]
  by_cases e : b < a
  · rw [if_pos e]; exact h7 b w (by omega) hw
  · rw [if_neg e]; exact h7 (b + 1) w (by omega) hw
theorem SB.goes (h : SB n bN bO bC s) (ha : a < n) : ∃ C' s', g_X0_remove bN bC (nI a) = some (upd bN 0 (nI (n - 1)), C') ∧ g_X5_goes s (nI a) = some s' ∧ SB (n - 1) (upd bN 0 (nI (n - 1))) bO C' s' ∧ (∀ j, j < 14 → j ≠ 9 → s' j = s j) ∧ ∀ b w, b < n - 1 → w < 7 → av s' b w = av s (if b < a then b else b + 1) w := h.goes2 h.cb ha
end GO
