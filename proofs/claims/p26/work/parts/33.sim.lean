/-! writing: what is written on both sides keeps the likeness -/
def SB (n : Nat) (bN bO bC s : Nat → Int32) : Prop := n ≤ 9 ∧ s 9 = nI n ∧ eqB n bN bO bC s
def lay3 (g : Nat → Int32) (i : Nat) (k t f : Int32) : Nat → Int32 := upd (upd (upd g (i + 2) k) (i + 3) t) (i + 4) f
theorem lay3_un {g : Nat → Int32} {i j : Nat} {k t f : Int32} (h1 : j ≠ i + 2) (h2 : j ≠ i + 3) (h3 : j ≠ i + 4) : lay3 g i k t f j = g j := by
  unfold lay3; rw [pk_un h3, pk_un h2, pk_un h1]
theorem lay3_2 {g : Nat → Int32} {i : Nat} {k t f : Int32} : lay3 g i k t f (i + 2) = k := by
  unfold lay3; rw [pk_un (by omega), pk_un (by omega), pk_us]
theorem lay3_3 {g : Nat → Int32} {i : Nat} {k t f : Int32} : lay3 g i k t f (i + 3) = t := by
  unfold lay3; rw [pk_un (by omega), pk_us]
theorem lay3_4 {g : Nat → Int32} {i : Nat} {k t f : Int32} : lay3 g i k t f (i + 4) = f := by
  unfold lay3; rw [pk_us]
section SI
variable {n : Nat} {bN bO bC s : Nat → Int32} {a w : Nat}
theorem SB.cb (h : SB n bN bO bC s) : CB n (av s) bN bC := ⟨h.1, h.2.2.1.trans h.2.1, h.2.2.2.2.2.2⟩
theorem SB.mb (h : SB n bN bO bC s) : MB n (av s) s := ⟨h.1, h.2.1, fun _ _ _ _ => rfl⟩
theorem SB.put (h : SB n bN bO bC s) (ha : a < n) (hw : w < 7) (x : Int32) : SB n bN bO (upd bC (7 * a + w) x) (upd s (14 + 7 * a + w) x) := by
  obtain ⟨h1, h2, h3, h4, h5, h6, h7⟩ := h
  refine ⟨h1, by rw [pk_un (by omega)]; exact h2, by rw [pk_un (by omega)]; exact h3, fun k hk => by rw [pk_un (by omega)]; exact h4 k hk, fun k hk => by rw [pk_un (by omega)]; exact h5 k hk, h6, fun b u hb hu => ?_⟩
  unfold av
  by_cases e : 7 * b + u = 7 * a + w
  · rw [e, pk_us, show 14 + 7 * b + u = 14 + 7 * a + w by omega, pk_us]
  · rw [pk_un e, pk_un (by omega)]; exact h7 b u hb hu
theorem SB.lay (h : SB n bN bO bC s) (ha : a < n) (k t f : Int32) : SB n bN bO (lay3 bC (7 * a) k t f) (lay3 s (14 + 7 * a) k t f) :=
  ((h.put (w := 2) ha (by decide) k).put (w := 3) ha (by decide) t).put (w := 4) ha (by decide) f
theorem SB.num (h : SB n bN bO bC s) {k : Nat} (hk : k < 9) (x : Int32) : SB n (upd bN (k + 1) x) bO bC (upd s k x) := by
  obtain ⟨h1, h2, h3, h4, h5, h6, h7⟩ := h
  refine ⟨h1, by rw [pk_un (by omega)]; exact h2, by rw [pk_un (by omega), pk_un (by omega)]; exact h3, fun j hj => ?_, fun j hj => by rw [pk_un (by omega)]; exact h5 j hj, h6, fun b u hb hu => ?_⟩
  · by_cases e : j = k
    · rw [e, pk_us, pk_us]
    · rw [pk_un (by omega), pk_un e]; exact h4 j hj
  · unfold av; rw [pk_un (by omega)]; exact h7 b u hb hu
theorem SB.own (h : SB n bN bO bC s) {k : Nat} (hk : k < 4) (x : Int32) : SB n bN (upd bO (3 * k) x) bC (upd s (10 + k) x) := by
  obtain ⟨h1, h2, h3, h4, h5, h6, h7⟩ := h
  refine ⟨h1, by rw [pk_un (by omega)]; exact h2, by rw [pk_un (by omega)]; exact h3, fun j hj => by rw [pk_un (by omega)]; exact h4 j hj, fun j hj => ?_, fun f hf hm => by rw [pk_un (by omega)]; exact h6 f hf hm, fun b u hb hu => ?_⟩
  · by_cases e : j = k
    · rw [e, pk_us, pk_us]
    · rw [pk_un (by omega), pk_un (by omega)]; exact h5 j hj
  · unfold av; rw [pk_un (by omega)]; exact h7 b u hb hu
theorem x0_give (ha : a < 9) (k f t : Int32) : g_X0_give bC (nI a) k f t = some (bC (7 * a + 2), lay3 bC (7 * a) k (if k = 0 then -1 else t) (if k = 2 then f else -1)) := by
  have p3 : ∀ {g : Nat → Int32} {x : Int32}, g_X0_put g (nI a) 3 x = some (upd g (7 * a + 3) x) := fun {g x} => x0_put (w := 3) (by omega)
  have p4 : ∀ {g : Nat → Int32} {x : Int32}, g_X0_put g (nI a) 4 x = some (upd g (7 * a + 4) x) := fun {g x} => x0_put (w := 4) (by omega)
  have p2 : ∀ {g : Nat → Int32} {x : Int32}, g_X0_put g (nI a) 2 x = some (upd g (7 * a + 2) x) := fun {g x} => x0_put (w := 2) (by omega)
  have q2 : g_X0_of bC (nI a) 2 = some (bC (7 * a + 2)) := x0_cell (w := 2) (by omega)
  unfold lay3
  simp only [g_X0_give, q2, bd_some, p2, g_X0_give_J1, p3, g_X0_give_J2, p4]
  by_cases e : k = 0
  · by_cases e2 : k = 2
    · simp [e, e2]
    · simp [e, e2]
  · by_cases e2 : k = 2
    · simp [e, e2]
    · simp [e, e2]
theorem x5_lays (ha : a < 9) (k t f : Int32) : g_X5_lays s (nI a) k t f = some (lay3 s (14 + 7 * a) k t f) := by
  have q : ∀ j : Nat, 14 + 7 * nI a + nI j = nI (14 + 7 * a + j) := fun j => at_ix a j
  have q2 : 14 + 7 * nI a + 2 = nI (14 + 7 * a + 2) := q 2
  have q3 : 14 + 7 * nI a + 3 = nI (14 + 7 * a + 3) := q 3
  have q4 : 14 + 7 * nI a + 4 = nI (14 + 7 * a + 4) := q 4
  unfold g_X5_lays g_X5_at
  rw [bd_some, q2, wrA_n (by omega) (by decide), bd_some, q3, wrA_n (by omega) (by decide), bd_some, q4, wrA_n (by omega) (by decide)]
  rfl
theorem x0_count {k : Nat} (hk : k < 10) : g_X0_countOne bN (nI k) = some (upd bN k (bN k + 1)) := by
  unfold g_X0_countOne
  rw [x0_number hk, bd_some, x4_enterN (by decide) hk, bd_some]
/-- the row of an army's numbers moves up -/
theorem x0_remove_row {c : Nat} (hc : c + 1 < 9) (g : Nat → Int32) : ∃ g', g_X0_remove_L2 (nI (c + 1)) FU 0 g = some g' ∧ (∀ w, w < 7 → g' (7 * c + w) = g (7 * (c + 1) + w)) ∧ ∀ j, j < 7 * c ∨ 7 * c + 7 ≤ j → g' j = g j := by
  refine lpF (fun nf i x => g_X0_remove_L2 (nI (c + 1)) nf (nI i) x) 7 (fun i x => (∀ w, w < i → x (7 * c + w) = g (7 * (c + 1) + w)) ∧ ∀ j, j < 7 * c ∨ 7 * c + i ≤ j → x j = g j) (fun x => (∀ w, w < 7 → x (7 * c + w) = g (7 * (c + 1) + w)) ∧ ∀ j, j < 7 * c ∨ 7 * c + 7 ≤ j → x j = g j) (by decide) g ⟨fun w hw => by omega, fun j _ => rfl⟩
    (fun nf i x hi hI => ?_) (fun nf x hI => ⟨x, by rw [g_X0_remove_L2, pastE (M := 7) 7 rfl (Nat.le_refl _) (by decide)], hI⟩)
  refine Or.inl ⟨upd x (7 * c + i) (x (7 * (c + 1) + i)), ⟨fun w hw => ?_, fun j hj => ?_⟩, ?_⟩
  · by_cases e : w = i
    · rw [e, pk_us, hI.2 _ (by omega)]
    · rw [pk_un (by omega)]; exact hI.1 w (by omega)
  · rw [pk_un (by omega)]; exact hI.2 j (by omega)
  · rw [g_X0_remove_L2, past (M := 7) 7 rfl hi (by decide), x0_cell (by omega), bd_some, nI_pred, x0_put (by omega), bd_some, nI_1]
theorem x0_remove (h : CB n (av s) bN bC) (ha : a < n) : ∃ bC', g_X0_remove bN bC (nI a) = some (upd bN 0 (nI (n - 1)), bC') ∧ ∀ b w, b < n - 1 → w < 7 → bC' (7 * b + w) = bC (7 * (if b < a then b else b + 1) + w) := by
  have hn := h.1
  obtain ⟨g, h1, h2⟩ := lp (fun nf i x => g_X0_remove_L1 bN nf (nI i) x) n (fun i x => a < i ∧ (∀ b w, b < i - 1 → w < 7 → x (7 * b + w) = bC (7 * (if b < a then b else b + 1) + w)) ∧ ∀ j, 7 * (i - 1) ≤ j → x j = bC j) (fun x => ∀ b w, b < n - 1 → w < 7 → x (7 * b + w) = bC (7 * (if b < a then b else b + 1) + w))
    (fun nf i x hi hI => by
      obtain ⟨i1, i2, i3⟩ := hI
      obtain ⟨g', g1, g2, g3⟩ := x0_remove_row (c := i - 1) (by omega) x
      rw [show i - 1 + 1 = i by omega] at g1 g2
      refine Or.inl ⟨g', ⟨by omega, fun b w hb hw => ?_, fun j hj => ?_⟩, ?_⟩
      · by_cases e : b = i - 1
        · rw [e, g2 w hw, if_neg (by omega), i3 _ (by omega), show i - 1 + 1 = i by omega]
        · rw [g3 _ (by omega)]; exact i2 b w (by omega) hw
      · rw [g3 j (by omega)]; exact i3 j (by omega)
      · rw [g_X0_remove_L1, x0_number0 h, bd_some, go_on hn hi, g1, bd_some, nI_1])
    (fun nf x hI => ⟨x, by rw [g_X0_remove_L1, x0_number0 h, bd_some, go_out hn], hI.2.1⟩)
    (n - (a + 1)) FU (a + 1) bC (by omega) (by show _ < 5000; omega) ⟨by omega, fun b w hb hw => by rw [if_pos (by omega)], fun j _ => rfl⟩
  refine ⟨g, ?_, h2⟩
  rw [g_X0_remove, nI_1, h1, bd_some, x0_number0 h, bd_some, show nI n - 1 = nI (n - 1) from by rw [show nI n - 1 = nI n - nI 1 from rfl, pk_sub (by omega)], show g_X4_enter 10 bN 0 (nI (n - 1)) = some (upd bN 0 (nI (n - 1))) from x4_enterN (a := 0) (by decide) (by decide), bd_some]
end SI
