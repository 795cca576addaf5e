/-! small calls: army, drop, hold, move, support, undo, keep, restore, the buffer -/
theorem x5_holds0 (th : Int32) : g_X5_holds th 0 = some (1, 0) := rfl
theorem x5_holds1 (th : Int32) : g_X5_holds th 1 = some (0, 1) := rfl
theorem x5_holds2 (th : Int32) : g_X5_holds th 2 = some (0, 2) := rfl
theorem t10 : ¬ (1 : Int32) = 0 := by decide
theorem t20 : ¬ (2 : Int32) = 0 := by decide
/-- a number between 0 and m -/
theorem in_rng (x M : Int32) {m : Nat} (hm : m < 1000) (hM : M = nI m) : (x < 0 ∧ g_X5_in x 0 M = some 0) ∨ (¬ x < 0 ∧ nI (m + 1) ≤ x ∧ g_X5_in x 0 M = some 0) ∨ ∃ j, j ≤ m ∧ x = nI j ∧ g_X5_in x 0 M = some 1 := by
  subst hM
  rcases pk_ix x (n := m + 1) (by omega) with h | h | ⟨j, hj, rfl⟩
  · exact Or.inl ⟨h, by rw [g_X5_in, if_pos h]⟩
  · by_cases h0 : x < 0
    · exact Or.inl ⟨h0, by rw [g_X5_in, if_pos h0]⟩
    · obtain ⟨j, hj, rfl⟩ := nI_of h0
      have h2 : m + 1 ≤ j := (nI_leI (by omega) hj).mp h
      exact Or.inr (Or.inl ⟨h0, h, by rw [g_X5_in, if_neg h0, if_pos (nI_lt (by omega) hj)]⟩)
  · exact Or.inr (Or.inr ⟨j, by omega, rfl, by rw [g_X5_in, if_neg (nI_pos (by omega)), if_neg (nI_nlt (by omega) (by omega))]⟩)
theorem is_seat (x : Int32) : (g_X4_isSeat x = some 0 ∧ g_X5_isSeat x = some 0) ∨ ∃ j, j < 3 ∧ x = nI j ∧ g_X4_isSeat x = some 1 ∧ g_X5_isSeat x = some 1 := by
  rcases in_rng x 2 (m := 2) (by decide) rfl with ⟨h, e⟩ | ⟨h0, h, e⟩ | ⟨j, hj, rfl, e⟩
  · exact Or.inl ⟨by rw [g_X4_isSeat, if_pos h], by rw [g_X5_isSeat, e]; rfl⟩
  · exact Or.inl ⟨by rw [g_X4_isSeat, if_neg h0, if_pos (show (3 : Int32) ≤ x from h)], by rw [g_X5_isSeat, e]; rfl⟩
  · exact Or.inr ⟨j, by omega, rfl, by rw [g_X4_isSeat, if_neg (nI_pos (by omega)), past (M := 3) 3 rfl (by omega) (by decide)], by rw [g_X5_isSeat, e]; rfl⟩
theorem is_field (x : Int32) : (g_X4_isField x = some 0 ∧ g_X5_isField x = some 0) ∨ ∃ j, j < 12 ∧ x = nI j ∧ g_X4_isField x = some 1 ∧ g_X5_isField x = some 1 := by
  rcases in_rng x 11 (m := 11) (by decide) rfl with ⟨h, e⟩ | ⟨h0, h, e⟩ | ⟨j, hj, rfl, e⟩
  · exact Or.inl ⟨by rw [g_X4_isField, if_pos h], by rw [g_X5_isField, e]; rfl⟩
  · exact Or.inl ⟨by rw [g_X4_isField, if_neg h0, if_pos (show (12 : Int32) ≤ x from h)], by rw [g_X5_isField, e]; rfl⟩
  · exact Or.inr ⟨j, by omega, rfl, by rw [g_X4_isField, if_neg (nI_pos (by omega)), past (M := 12) 12 rfl (by omega) (by decide)], by rw [g_X5_isField, e]; rfl⟩
theorem is_army {n : Nat} {v : Nat → Nat → Int32} {bN bC s : Nat → Int32} (h : CB n v bN bC) (h' : MB n v s) (x : Int32) : (g_X0_hasArmy bN x = some 0 ∧ g_X5_isArmy s x = some 0) ∨ ∃ a, a < n ∧ x = nI a ∧ g_X0_hasArmy bN x = some 1 ∧ g_X5_isArmy s x = some 1 := by
  have hn := h.1
  have e : ∀ k, g_X5_in x 0 (nI n - 1) = some k → g_X5_isArmy s x = some k := fun k hk => by
    rw [g_X5_isArmy, r77_9, h'.2.1, hk]; rfl
  by_cases h0 : x < 0
  · exact Or.inl ⟨by rw [g_X0_hasArmy, if_pos h0], e 0 (by rw [g_X5_in, if_pos h0])⟩
  · obtain ⟨j, hj, rfl⟩ := nI_of h0
    by_cases hjn : j < n
    · refine Or.inr ⟨j, hjn, rfl, ?_, e 1 ?_⟩
      · rw [g_X0_hasArmy, if_neg h0, x0_number0 h, bd_some, go_on hn hjn]
      · rw [pk_pred (by omega), g_X5_in, if_neg h0, if_neg (nI_nlt (by omega) (by omega))]
    · refine Or.inl ⟨?_, e 0 ?_⟩
      · rw [g_X0_hasArmy, if_neg h0, x0_number0 h, bd_some, if_pos (nI_le (by omega) hj)]
      · by_cases hn0 : n = 0
        · subst hn0
          rw [g_X5_in, if_neg h0, if_pos]
          rw [Int32.lt_iff_toInt_lt, nI_toInt hj, show (nI 0 - 1 : Int32).toInt = -1 from by decide]
          omega
        · rw [pk_pred (by omega), g_X5_in, if_neg h0, if_pos (nI_lt (by omega) hj)]
theorem nb_adj_all : ∀ f, f < 12 → ∀ t, t < 12 → (¬ (g_X4_areNeighbours (nI f) (nI t)).getD 0 = 0 ↔ adjN f t) := by
  unfold adjN; decide +kernel
theorem nb_adj {f t : Nat} (hf : f < 12) (ht : t < 12) : ¬ nb (nI f) (nI t) = 0 ↔ adjN f t := nb_adj_all f hf t ht
section SM
variable {K n : Nat} {bN bO bC s : Nat → Int32} {a : Nat}
theorem okS.sb (h : okS K n s) (hE : eqB n bN bO bC s) : SB n bN bO bC s := ⟨h.1, h.2.1, hE⟩
theorem okS.d (h : okS K n s) : dist n (av s) := h.2.2.2.2.2.2
theorem okS.arm (h : okS K n s) (ha : a < n) : okA s a := h.2.2.2.2.2.1 a ha
/-- a row whose first numbers stay -/
theorem okS_of {m : Nat} {s' : Nat → Int32} (h : okS K n s) (hm : m ≤ 9) (h9 : s' 9 = nI m) (hs : ∀ j, j < 14 → j ≠ 9 → s' j = s j) (hA : ∀ a, a < m → okA s' a) (hd : ∀ a b, a < m → b < m → av s' a 1 = av s' b 1 → a = b) : okS K m s' := by
  obtain ⟨h1, h2, h3, ⟨a, b, ha, hb, e3, e4⟩, h5, _, _⟩ := h
  exact ⟨hm, h9, by rw [hs 1 (by decide) (by decide)]; exact h3, ⟨a, b, ha, hb, by rw [hs 3 (by decide) (by decide)]; exact e3, by rw [hs 4 (by decide) (by decide)]; exact e4⟩, fun k hk => by rw [hs _ (by omega) (by omega)]; exact h5 k hk, hA, hd⟩
theorem RB_goes (h : okS K n s) (hE : eqB n bN bO bC s) (ha : a < n) : ∃ C' s', g_X0_remove bN bC (nI a) = some (upd bN 0 (nI (n - 1)), C') ∧ g_X5_goes s (nI a) = some s' ∧ okS K (n - 1) s' ∧ eqB (n - 1) (upd bN 0 (nI (n - 1))) bO C' s' ∧ (∀ j, j < 14 → j ≠ 9 → s' j = s j) ∧ ∀ b w, b < n - 1 → w < 7 → av s' b w = av s (if b < a then b else b + 1) w := by
  obtain ⟨C', s', h1, h2, h3, h4, h5⟩ := (h.sb hE).goes ha
  have hn := h.1
  refine ⟨C', s', h1, h2, okS_of h (by omega) h3.2.1 h4 (fun b hb => ?_) (fun b c hb hc e => ?_), h3.2.2, h4, h5⟩
  · exact okA_c (a := if b < a then b else b + 1) (fun w hw => h5 b w hb (by omega)) (h.arm (by split <;> omega))
  · rw [h5 b 1 hb (by decide), h5 c 1 hc (by decide)] at e
    have := h.d _ _ (by split <;> omega) (by split <;> omega) e
    split at this <;> split at this <;> omega
theorem RB_sets (h : okS K n s) (hE : eqB n bN bO bC s) (hn : n < 9) {q f : Nat} (hq : q < 3) (hf : f < 12) (hno : ∀ b, b < n → ¬ av s b 1 = nI f) : ∃ C' s', g_X0_setUp bN bC (nI q) (nI f) = some (nI n, upd bN 0 (nI (n + 1)), C') ∧ g_X5_sets s (nI q) (nI f) = some s' ∧ okS K (n + 1) s' ∧ eqB (n + 1) (upd bN 0 (nI (n + 1))) bO C' s' ∧ (∀ j, j < 14 → j ≠ 9 → s' j = s j) := by
  obtain ⟨C', s', h1, h2, h3, h4, h5, h6⟩ := (h.sb hE).sets hn (nI q) (nI f)
  have e0 : av s' n 0 = nI q := h6 0 (by decide)
  have e1 : av s' n 1 = nI f := h6 1 (by decide)
  have e2 : av s' n 2 = 0 := h6 2 (by decide)
  have e3 : av s' n 3 = -1 := h6 3 (by decide)
  have e4 : av s' n 4 = -1 := h6 4 (by decide)
  refine ⟨C', s', h1, h2, okS_of h (by omega) h3.2.1 h4 (fun b hb => ?_) (fun b c hb hc e => ?_), h3.2.2, h4⟩
  · by_cases e : b = n
    · subst e
      exact ⟨⟨q, hq, e0⟩, f, hf, e1, Or.inl ⟨e2, e3, e4⟩⟩
    · exact okA_c (fun w hw => h5 b w (by omega) (by omega)) (h.arm (by omega))
  · by_cases eb : b = n
    · by_cases ec : c = n
      · omega
      · rw [eb, e1, h5 c 1 (by omega) (by decide)] at e
        exact absurd e.symm (hno c (by omega))
    · by_cases ec : c = n
      · rw [ec, e1, h5 b 1 (by omega) (by decide)] at e
        exact absurd e (hno b (by omega))
      · rw [h5 b 1 (by omega) (by decide), h5 c 1 (by omega) (by decide)] at e
        exact h.d b c (by omega) (by omega) e
/-- an order that is possible -/
def okOrd (s : Nat → Int32) (a : Nat) (k t g : Int32) : Prop := ∀ f, f < 12 → av s a 1 = nI f → (k = 0 ∧ t = -1 ∧ g = -1) ∨ (k = 1 ∧ (∃ u, u < 12 ∧ t = nI u ∧ adjN f u) ∧ g = -1) ∨ (k = 2 ∧ (∃ u, u < 12 ∧ t = nI u ∧ adjN f u) ∧ ∃ u, u < 12 ∧ g = nI u)
theorem av_lay {b w : Nat} {k t g : Int32} (hb : b ≠ a) (hw : w < 7) : av (lay3 s (14 + 7 * a) k t g) b w = av s b w := by
  unfold av; exact lay3_un (by omega) (by omega) (by omega)
theorem av_lay_u {w : Nat} {k t g : Int32} (h2 : w ≠ 2) (h3 : w ≠ 3) (h4 : w ≠ 4) : av (lay3 s (14 + 7 * a) k t g) a w = av s a w := by
  unfold av; exact lay3_un (by omega) (by omega) (by omega)
theorem okS_lay (h : okS K n s) (ha : a < n) {k t g : Int32} (ho : okOrd s a k t g) : okS K n (lay3 s (14 + 7 * a) k t g) := by
  have h1 : ∀ b w, w < 2 → av (lay3 s (14 + 7 * a) k t g) b w = av s b w := fun b w hw => by
    by_cases e : b = a
    · rw [e]; exact av_lay_u (by omega) (by omega) (by omega)
    · exact av_lay e (by omega)
  refine okS_of h h.1 (by rw [lay3_un (by omega) (by omega) (by omega)]; exact h.2.1) (fun j hj _ => lay3_un (by omega) (by omega) (by omega)) (fun b hb => ?_) (fun b c hb hc e => ?_)
  · by_cases e : b = a
    · subst e
      obtain ⟨⟨q, hq, e0⟩, f, hf, e1, _⟩ := h.arm hb
      refine ⟨⟨q, hq, by rw [h1 b 0 (by decide)]; exact e0⟩, f, hf, by rw [h1 b 1 (by decide)]; exact e1, ?_⟩
      have e2 : av (lay3 s (14 + 7 * b) k t g) b 2 = k := lay3_2
      have e3 : av (lay3 s (14 + 7 * b) k t g) b 3 = t := lay3_3
      have e4 : av (lay3 s (14 + 7 * b) k t g) b 4 = g := lay3_4
      rw [e2, e3, e4]
      exact ho f hf e1
    · exact okA_c (fun w hw => av_lay e (by omega)) (h.arm hb)
  · rw [h1 b 1 (by decide), h1 c 1 (by decide)] at e
    exact h.d b c hb hc e
theorem RB_lay (h : okS K n s) (hE : eqB n bN bO bC s) (ha : a < n) {k t g : Int32} (ho : okOrd s a k t g) : RB K bN bO (lay3 bC (7 * a) k t g) (lay3 s (14 + 7 * a) k t g) :=
  ⟨n, okS_lay h ha ho, ((h.sb hE).lay ha k t g).2.2⟩
end SM
theorem pu_army : PU_army := by
  intro K has bN bO bC old sav hN hO hC sN sO sC len codes th kept sm tl s snap ss text x1 x2 hK hR
  obtain ⟨⟨n, hok, hE⟩, hH, hSn, hT⟩ := hR
  have hS := hok.sb hE
  have hn := hok.1
  have hRB : RB K bN bO bC s := ⟨n, hok, hE⟩
  rcases is_seat x1 with ⟨p1, p2⟩ | ⟨q, hq, rfl, p1, p2⟩
  · refine ⟨1, 0, bN, bC, old, sav, hN, hO, hC, 0, 1, sm, s, ss, ?_, ?_, rfl, fun h => absurd h (by decide), RR_up (RB_up hRB) hH hSn hT⟩
    · rw [g_X4_army, p1, bd_some, if_pos rfl]; rfl
    · rw [g_X5_army, p2, bd_some, if_pos rfl]; rfl
  · rcases is_field x2 with ⟨p3, p4⟩ | ⟨f, hf, rfl, p3, p4⟩
    · refine ⟨1, 0, bN, bC, old, sav, hN, hO, hC, 0, 1, sm, s, ss, ?_, ?_, rfl, fun h => absurd h (by decide), RR_up (RB_up hRB) hH hSn hT⟩
      · rw [g_X4_army, p1, bd_some, if_neg t10, p3, bd_some, if_pos rfl]; rfl
      · rw [g_X5_army, p2, bd_some, if_neg t10, p4, bd_some, if_pos rfl]; rfl
    · rcases on_cases hn hok.d (nI f) with ⟨o, ho, e, hfo⟩ | ⟨e, hfo⟩
      · refine ⟨2, 0, bN, bC, old, sav, hN, hO, hC, 0, 2, sm, s, ss, ?_, ?_, rfl, fun h => absurd h (by decide), RR_up (RB_up hRB) hH hSn hT⟩
        · rw [g_X4_army, p1, bd_some, if_neg t10, p3, bd_some, if_neg t10, x0_armyOn hS.cb, bd_some, hfo, if_neg (nI_m1 (by omega))]; rfl
        · rw [g_X5_army, p2, bd_some, if_neg t10, p4, bd_some, if_neg t10, g_X5_army_J1, if_neg t10, x5_armyOn hS.mb hok.d, bd_some, hfo, if_neg (nI_m1 (by omega))]; rfl
      · by_cases h9 : n = 9
        · subst h9
          refine ⟨2, 0, bN, bC, old, sav, hN, hO, hC, 0, 2, sm, s, ss, ?_, ?_, rfl, fun h => absurd h (by decide), RR_up (RB_up hRB) hH hSn hT⟩
          · rw [g_X4_army, p1, bd_some, if_neg t10, p3, bd_some, if_neg t10, x0_armyOn hS.cb, bd_some, hfo, if_pos rfl, x0_number0 hS.cb, bd_some, if_neg (show ¬ nI 9 < 9 by decide)]; rfl
          · rw [g_X5_army, p2, bd_some, if_neg t10, p4, bd_some, if_neg t10, g_X5_army_J1, if_neg t10, x5_armyOn hS.mb hok.d, bd_some, hfo, if_pos rfl, r77_9, hok.2.1, if_pos (show nI 9 = 9 from rfl)]; rfl
        · have hn9 : n < 9 := by omega
          obtain ⟨old', sav', hN', hO', hC', sm', ss', g1, g2, g3⟩ := RH_save hH hRB
          obtain ⟨C', s', g4, g5, g6, g7, _⟩ := RB_sets hok hE hn9 hq hf e
          refine ⟨0, nI n, upd bN 0 (nI (n + 1)), C', old', sav', hN', hO', hC', nI n, 0, sm', s', ss', ?_, ?_, rfl, fun _ => rfl, RR_up (RB_up ⟨n + 1, g6, g7⟩) g3 hSn hT⟩
          · rw [g_X4_army, p1, bd_some, if_neg t10, p3, bd_some, if_neg t10, x0_armyOn hS.cb, bd_some, hfo, if_pos rfl, x0_number0 hS.cb, bd_some, if_pos (show nI n < 9 from nI_lt (b := 9) hn9 (by decide)), g1, b5_some, g4]; rfl
          · rw [g_X5_army, p2, bd_some, if_neg t10, p4, bd_some, if_neg t10, g_X5_army_J1, if_neg t10, x5_armyOn hS.mb hok.d, bd_some, hfo, if_pos rfl, r77_9, hok.2.1, if_neg (show ¬ nI n = 9 from fun q => h9 ((nI_eq (b := 9) (by omega) (by decide)).mp q)), g_X5_army_J2, x5_holds0, b2_some, if_neg t10, g2, b2_some, g5, bd_some, r77_9, g6.2.1, nI_pred]
theorem pu_drop : PU_drop := by
  intro K has bN bO bC old sav hN hO hC sN sO sC len codes th kept sm tl s snap ss text x1 hK hR
  obtain ⟨⟨n, hok, hE⟩, hH, hSn, hT⟩ := hR
  have hS := hok.sb hE
  have hn := hok.1
  have hRB : RB K bN bO bC s := ⟨n, hok, hE⟩
  rcases is_army hS.cb hS.mb x1 with ⟨p1, p2⟩ | ⟨a, ha, rfl, p1, p2⟩
  · refine ⟨1, 0, bN, old, sav, hN, hO, hC, bC, 0, 1, sm, s, ss, ?_, ?_, rfl, fun h => absurd h (by decide), RR_up (RB_up hRB) hH hSn hT⟩
    · rw [g_X4_drop, p1, bd_some, if_pos rfl]
    · rw [g_X5_drop, p2, bd_some, if_pos rfl]; rfl
  · obtain ⟨old', sav', hN', hO', hC', sm', ss', g1, g2, g3⟩ := RH_save hH hRB
    obtain ⟨C', s', g4, g5, g6, g7, _⟩ := RB_goes hok hE ha
    have e0 : g_X0_number (upd bN 0 (nI (n - 1))) 0 = some (nI (n - 1)) := (x0_number (k := 0) (by decide)).trans (by rw [pk_us])
    refine ⟨0, nI (n - 1), upd bN 0 (nI (n - 1)), old', sav', hN', hO', hC', C', nI (n - 1), 0, sm', s', ss', ?_, ?_, rfl, fun _ => rfl, RR_up (RB_up ⟨n - 1, g6, g7⟩) g3 hSn hT⟩
    · rw [g_X4_drop, p1, bd_some, if_neg t10, g1, b5_some, g4, b2_some, e0, bd_some]
    · rw [g_X5_drop, p2, bd_some, if_neg t10, g_X5_drop_J1, x5_holds0, b2_some, if_neg t10, g2, b2_some, g5, bd_some, r77_9, g6.2.1]
theorem x5_ordered {n : Nat} {s ss ss' : Nat → Int32} {sm sm' : Int32} {a : Nat} (h : MB n (av s) s) (ha : a < n) (g2 : g_X5_save sm s ss = some (sm', ss')) (k t g : Int32) : g_X5_ordered sm s ss (nI a) k t g = some (av s a 2, sm', lay3 s (14 + 7 * a) k t g, ss') := by
  have := h.1
  rw [g_X5_ordered, g2, b2_some, x5_of2 h ha, bd_some, x5_lays (by omega), bd_some]
theorem x0_giveS {n : Nat} {bN bO bC s : Nat → Int32} {a : Nat} (h : SB n bN bO bC s) (ha : a < n) (k f t : Int32) : g_X0_give bC (nI a) k f t = some (av s a 2, lay3 bC (7 * a) k (if k = 0 then -1 else t) (if k = 2 then f else -1)) := by
  have := h.1
  rw [x0_give (by omega), h.cb.2.2 a 2 ha (by decide)]
theorem pu_hold : PU_hold := by
  intro K has bN bO bC old sav hN hO hC sN sO sC len codes th kept sm tl s snap ss text x1 hK hR
  obtain ⟨⟨n, hok, hE⟩, hH, hSn, hT⟩ := hR
  have hS := hok.sb hE
  have hn := hok.1
  have hRB : RB K bN bO bC s := ⟨n, hok, hE⟩
  rcases is_army hS.cb hS.mb x1 with ⟨p1, p2⟩ | ⟨a, ha, rfl, p1, p2⟩
  · refine ⟨1, 0, old, sav, hN, hO, hC, bC, 0, 1, sm, s, ss, ?_, ?_, rfl, fun h => absurd h (by decide), RR_up (RB_up hRB) hH hSn hT⟩
    · rw [g_X4_hold, p1, bd_some, if_pos rfl]
    · rw [g_X5_hold, p2, bd_some, if_pos rfl]; rfl
  · obtain ⟨old', sav', hN', hO', hC', sm', ss', g1, g2, g3⟩ := RH_save hH hRB
    refine ⟨0, av s a 2, old', sav', hN', hO', hC', lay3 bC (7 * a) 0 (-1) (-1), av s a 2, 0, sm', lay3 s (14 + 7 * a) 0 (-1) (-1), ss', ?_, ?_, rfl, fun _ => rfl, RR_up (RB_up (RB_lay hok hE ha (fun f _ _ => Or.inl ⟨rfl, rfl, rfl⟩))) g3 hSn hT⟩
    · rw [g_X4_hold, p1, bd_some, if_neg t10, g1, b5_some, x0_giveS hS ha]; rfl
    · rw [g_X5_hold, p2, bd_some, if_neg t10, g_X5_hold_J1, x5_holds0, b2_some, if_neg t10, x5_ordered hS.mb ha g2]; rfl
theorem x0_can {n : Nat} {bN bO bC s : Nat → Int32} {a : Nat} (h : SB n bN bO bC s) (hp : g_X0_hasArmy bN (nI a) = some 1) (ha : a < n) {k : Int32} (hk : ¬ k = 0) (f t : Int32) : g_X0_canBeGiven bN bC (nI a) k f t = some (bi (¬ nb (av s a 1) t = 0 ∧ (k = 1 ∨ f = t ∨ ¬ nb f t = 0))) := by
  rw [g_X0_canBeGiven, hp, bd_some, if_neg t10, if_neg hk, x0_of1 h.cb ha, bd_some, x4_nb, bd_some, x4_nb, bd_some]
  by_cases e1 : nb (av s a 1) t = 0 <;> by_cases e2 : k = 1 <;> by_cases e3 : f = t <;> by_cases e4 : nb f t = 0 <;> simp [e1, e2, e3, e4, bi]
theorem pu_move : PU_move := by
  intro K has bN bO bC old sav hN hO hC sN sO sC len codes th kept sm tl s snap ss text x1 x2 hK hR
  obtain ⟨⟨n, hok, hE⟩, hH, hSn, hT⟩ := hR
  have hS := hok.sb hE
  have hn := hok.1
  have hRB : RB K bN bO bC s := ⟨n, hok, hE⟩
  rcases is_army hS.cb hS.mb x1 with ⟨p1, p2⟩ | ⟨a, ha, rfl, p1, p2⟩
  · refine ⟨1, 0, bC, old, sav, hN, hO, hC, 0, 1, sm, s, ss, ?_, ?_, rfl, fun h => absurd h (by decide), RR_up (RB_up hRB) hH hSn hT⟩
    · rw [g_X4_move, p1, bd_some, if_pos rfl]; rfl
    · rw [g_X5_move, p2, bd_some, if_pos rfl]; rfl
  · rcases is_field x2 with ⟨p3, p4⟩ | ⟨t, ht, rfl, p3, p4⟩
    · refine ⟨1, 0, bC, old, sav, hN, hO, hC, 0, 1, sm, s, ss, ?_, ?_, rfl, fun h => absurd h (by decide), RR_up (RB_up hRB) hH hSn hT⟩
      · rw [g_X4_move, p1, bd_some, if_neg t10, p3, bd_some, if_pos rfl]; rfl
      · rw [g_X5_move, p2, bd_some, if_neg t10, p4, bd_some, if_pos rfl]; rfl
    · by_cases e : nb (av s a 1) (nI t) = 0
      · refine ⟨2, 0, bC, old, sav, hN, hO, hC, 0, 2, sm, s, ss, ?_, ?_, rfl, fun h => absurd h (by decide), RR_up (RB_up hRB) hH hSn hT⟩
        · rw [g_X4_move, p1, bd_some, if_neg t10, p3, bd_some, if_neg t10, x0_can hS p1 ha t10, bd_some, bi_f (fun q => q.1 e), if_pos rfl]
        · rw [g_X5_move, p2, bd_some, if_neg t10, p4, bd_some, if_neg t10, g_X5_move_J1, if_neg t10, x5_of1 hS.mb ha, bd_some, x5_nb, bd_some, if_pos e]; rfl
      · obtain ⟨old', sav', hN', hO', hC', sm', ss', g1, g2, g3⟩ := RH_save hH hRB
        have hOrd : okOrd s a 1 (nI t) (-1) := fun f hf e1 => Or.inr (Or.inl ⟨rfl, ⟨t, ht, rfl, (nb_adj hf ht).mp (by rw [← e1]; exact e)⟩, rfl⟩)
        refine ⟨0, av s a 2, lay3 bC (7 * a) 1 (nI t) (-1), old', sav', hN', hO', hC', av s a 2, 0, sm', lay3 s (14 + 7 * a) 1 (nI t) (-1), ss', ?_, ?_, rfl, fun _ => rfl, RR_up (RB_up (RB_lay hok hE ha hOrd)) g3 hSn hT⟩
        · rw [g_X4_move, p1, bd_some, if_neg t10, p3, bd_some, if_neg t10, x0_can hS p1 ha t10, bd_some, bi_t ⟨e, Or.inl rfl⟩, if_neg t10, g1, b5_some, x0_giveS hS ha]; rfl
        · rw [g_X5_move, p2, bd_some, if_neg t10, p4, bd_some, if_neg t10, g_X5_move_J1, if_neg t10, x5_of1 hS.mb ha, bd_some, x5_nb, bd_some, if_neg e, g_X5_move_J2, x5_holds0, b2_some, if_neg t10, x5_ordered hS.mb ha g2]; rfl
theorem x5_can {n : Nat} {s : Nat → Int32} {a : Nat} (h : MB n (av s) s) (ha : a < n) (f t : Int32) : g_X5_canSupport s (nI a) f t = some (bi (¬ nb (av s a 1) t = 0 ∧ (f = t ∨ ¬ nb f t = 0))) := by
  rw [g_X5_canSupport, x5_of1 h ha, bd_some, x5_nb, bd_some, x5_nb, bd_some]
  by_cases e1 : nb (av s a 1) t = 0 <;> by_cases e3 : f = t <;> by_cases e4 : nb f t = 0 <;> simp [e1, e3, e4, bi]
theorem pu_support : PU_support := by
  intro K has bN bO bC old sav hN hO hC sN sO sC len codes th kept sm tl s snap ss text x1 x2 x3 hK hR
  obtain ⟨⟨n, hok, hE⟩, hH, hSn, hT⟩ := hR
  have hS := hok.sb hE
  have hn := hok.1
  have hRB : RB K bN bO bC s := ⟨n, hok, hE⟩
  rcases is_army hS.cb hS.mb x1 with ⟨p1, p2⟩ | ⟨a, ha, rfl, p1, p2⟩
  · refine ⟨1, 0, bC, old, sav, hN, hO, hC, 0, 1, sm, s, ss, ?_, ?_, rfl, fun h => absurd h (by decide), RR_up (RB_up hRB) hH hSn hT⟩
    · rw [g_X4_support, p1, bd_some, if_pos rfl]; rfl
    · rw [g_X5_support, p2, bd_some, if_pos rfl]; rfl
  · rcases is_field x2 with ⟨p3, p4⟩ | ⟨f, hf, rfl, p3, p4⟩
    · refine ⟨1, 0, bC, old, sav, hN, hO, hC, 0, 1, sm, s, ss, ?_, ?_, rfl, fun h => absurd h (by decide), RR_up (RB_up hRB) hH hSn hT⟩
      · rw [g_X4_support, p1, bd_some, if_neg t10, p3, bd_some, if_pos rfl]; rfl
      · rw [g_X5_support, p2, bd_some, if_neg t10, p4, bd_some, if_pos rfl]; rfl
    · rcases is_field x3 with ⟨p5, p6⟩ | ⟨t, ht, rfl, p5, p6⟩
      · refine ⟨1, 0, bC, old, sav, hN, hO, hC, 0, 1, sm, s, ss, ?_, ?_, rfl, fun h => absurd h (by decide), RR_up (RB_up hRB) hH hSn hT⟩
        · rw [g_X4_support, p1, bd_some, if_neg t10, p3, bd_some, if_neg t10, p5, bd_some, if_pos rfl]; rfl
        · rw [g_X5_support, p2, bd_some, if_neg t10, p4, bd_some, if_neg t10, p6, bd_some, if_pos rfl]; rfl
      · by_cases e : ¬ nb (av s a 1) (nI t) = 0 ∧ (nI f = nI t ∨ ¬ nb (nI f) (nI t) = 0)
        · obtain ⟨old', sav', hN', hO', hC', sm', ss', g1, g2, g3⟩ := RH_save hH hRB
          have hOrd : okOrd s a 2 (nI t) (nI f) := fun f' hf' e1 => Or.inr (Or.inr ⟨rfl, ⟨t, ht, rfl, (nb_adj hf' ht).mp (by rw [← e1]; exact e.1)⟩, f, hf, rfl⟩)
          refine ⟨0, av s a 2, lay3 bC (7 * a) 2 (nI t) (nI f), old', sav', hN', hO', hC', av s a 2, 0, sm', lay3 s (14 + 7 * a) 2 (nI t) (nI f), ss', ?_, ?_, rfl, fun _ => rfl, RR_up (RB_up (RB_lay hok hE ha hOrd)) g3 hSn hT⟩
          · rw [g_X4_support, p1, bd_some, if_neg t10, p3, bd_some, if_neg t10, p5, bd_some, if_neg t10, x0_can hS p1 ha t20, bd_some, bi_t ⟨e.1, Or.inr e.2⟩, if_neg t10, g1, b5_some, x0_giveS hS ha]; rfl
          · rw [g_X5_support, p2, bd_some, if_neg t10, p4, bd_some, if_neg t10, p6, bd_some, if_neg t10, g_X5_support_J1, if_neg t10, x5_can hS.mb ha, bd_some, bi_t e, if_neg t10, g_X5_support_J2, x5_holds0, b2_some, if_neg t10, x5_ordered hS.mb ha g2]; rfl
        · refine ⟨2, 0, bC, old, sav, hN, hO, hC, 0, 2, sm, s, ss, ?_, ?_, rfl, fun h => absurd h (by decide), RR_up (RB_up hRB) hH hSn hT⟩
          · rw [g_X4_support, p1, bd_some, if_neg t10, p3, bd_some, if_neg t10, p5, bd_some, if_neg t10, x0_can hS p1 ha t20, bd_some, bi_f (fun q => e ⟨q.1, q.2.resolve_left (by decide)⟩), if_pos rfl]
          · rw [g_X5_support, p2, bd_some, if_neg t10, p4, bd_some, if_neg t10, p6, bd_some, if_neg t10, g_X5_support_J1, if_neg t10, x5_can hS.mb ha, bd_some, bi_f e, if_pos rfl]; rfl
theorem pu_undo : PU_undo := by
  intro K has bN bO bC old sav hN hO hC sN sO sC len codes th kept sm tl s snap ss text hK hR
  obtain ⟨hRB, hH, hSn, hT⟩ := hR
  obtain ⟨o, m, ho, hm, rfl, rfl, rfl, hk⟩ := hH
  by_cases e : m = 0
  · subst e
    refine ⟨1, 0, nI 0, bN, bO, bC, 0, 1, nI 0, s, ?_, ?_, rfl, fun h => absurd h (by decide), RR_up (RB_up hRB) ⟨o, 0, ho, hm, rfl, rfl, rfl, hk⟩ hSn hT⟩
    · rw [g_X4_undo, g_X1_size, bd_some, if_pos (show nI 0 = 0 from rfl)]
    · rw [g_X5_undo, if_pos (show nI 0 ≤ 0 by decide)]; rfl
  · obtain ⟨k, rfl⟩ : ∃ k, m = k + 1 := ⟨m - 1, by omega⟩
    obtain ⟨s', g1, g2⟩ := x5_undoL (m := k) (by omega) ss s
    refine ⟨0, nI k, nI k, va_cpy (hN ((o + k) % 6)) bN 0 0 10, va_cpy (hO ((o + k) % 6)) bO 0 0 12, va_cpy (hC ((o + k) % 6)) bC 0 0 63, nI k, 0, nI k, s', ?_, ?_, rfl, fun _ => rfl, RR_up (RB_up (RB_c (hk k (by omega)) (fun j hj => cp0 hj) (fun j hj => cp0 hj) (fun j hj => cp0 hj) (fun j hj => g2 j hj))) ⟨o, k, ho, by omega, rfl, rfl, rfl, fun j hj => hk j (by omega)⟩ hSn hT⟩
    · rw [g_X4_undo, g_X1_size, bd_some, if_neg (nI_ne0 (by omega) (by omega)), x1_take ho (by omega), b4_some]; rfl
    · rw [g_X5_undo, if_neg (nI_nle (by omega) (by omega)), g_X5_undo_J1, x5_holds0, b2_some, if_neg t10, g1, bd_some, nI_pred]
theorem pu_keep : PU_keep := by
  intro K has bN bO bC old sav hN hO hC sN sO sC len codes th kept sm tl s snap ss text hK hR
  obtain ⟨⟨n, hok, hE⟩, hH, hSn, hT⟩ := hR
  have hS := hok.sb hE
  have hRB : RB K bN bO bC s := ⟨n, hok, hE⟩
  obtain ⟨g, g1, g2⟩ := x5_keepL s snap
  refine ⟨nI n, 1, va_cpy bN sN 0 0 10, va_cpy bO sO 0 0 12, va_cpy bC sC 0 0 63, 0, 1, g, ?_, ?_, RR_up (RB_up hRB) hH (Or.inr ⟨rfl, rfl, RB_c hRB (fun j hj => cp0 hj) (fun j hj => cp0 hj) (fun j hj => cp0 hj) (fun j hj => g2 j hj)⟩) hT⟩
  · rw [g_X4_keep, g_X0_copyFrom, b3_some, x0_number0 hS.cb, bd_some]
  · rw [g_X5_keep, g1, bd_some, r77_9, hok.2.1]
theorem pu_restore : PU_restore := by
  intro K has bN bO bC old sav hN hO hC sN sO sC len codes th kept sm tl s snap ss text hK hR
  obtain ⟨hRB, hH, hSn, hT⟩ := hR
  rcases hSn with ⟨rfl, rfl⟩ | ⟨rfl, rfl, hQ⟩
  · refine ⟨1, 0, old, sav, hN, hO, hC, bN, bO, bC, 0, 1, sm, s, ss, ?_, ?_, rfl, fun h => absurd h (by decide), RR_up (RB_up hRB) hH (Or.inl ⟨rfl, rfl⟩) hT⟩
    · rw [g_X4_restore, if_pos rfl]
    · rw [g_X5_restore, if_pos rfl]; rfl
  · obtain ⟨old', sav', hN', hO', hC', sm', ss', g1, g2, g3⟩ := RH_save hH hRB
    obtain ⟨g, g4, g5⟩ := x5_restoreL snap s
    have hQ' : RB K (va_cpy sN bN 0 0 10) (va_cpy sO bO 0 0 12) (va_cpy sC bC 0 0 63) g := RB_c hQ (fun j hj => cp0 hj) (fun j hj => cp0 hj) (fun j hj => cp0 hj) (fun j hj => g5 j hj)
    obtain ⟨n, hok, hE⟩ := hQ'
    refine ⟨0, nI n, old', sav', hN', hO', hC', va_cpy sN bN 0 0 10, va_cpy sO bO 0 0 12, va_cpy sC bC 0 0 63, nI n, 0, sm', g, ss', ?_, ?_, rfl, fun _ => rfl, RR_up (RB_up ⟨n, hok, hE⟩) g3 (Or.inr ⟨rfl, rfl, hQ⟩) hT⟩
    · rw [g_X4_restore, if_neg t10, g1, b5_some, g_X0_copyFrom, b3_some, x0_number0 (hok.sb hE).cb, bd_some]
    · rw [g_X5_restore, if_neg t10, g_X5_restore_J1, x5_holds0, b2_some, if_neg t10, g2, b2_some, g4, bd_some, r77_9, hok.2.1]
theorem pu_clearBuffer : PU_clearBuffer := by
  intro K has bN bO bC old sav hN hO hC sN sO sC len codes th kept sm tl s snap ss text hK hR
  obtain ⟨hRB, hH, hSn, hT⟩ := hR
  obtain ⟨m, hm, rfl, rfl, hc⟩ := hT
  exact ⟨nI m, 0, 0, 0, rfl, rfl, RR_up (RB_up hRB) hH hSn ⟨0, by omega, rfl, rfl, fun j hj => by omega⟩⟩
theorem pu_append : PU_append := by
  intro K has bN bO bC old sav hN hO hC sN sO sC len codes th kept sm tl s snap ss text x1 hK hR
  obtain ⟨hRB, hH, hSn, hT⟩ := hR
  obtain ⟨m, hm, rfl, rfl, hc⟩ := hT
  have hT' : RT codes (nI m) text (nI m) := ⟨m, hm, rfl, rfl, hc⟩
  by_cases h1 : x1 < 33
  · refine ⟨1, 0, nI m, codes, 0, 1, nI m, text, ?_, ?_, rfl, fun h => absurd h (by decide), RR_up (RB_up hRB) hH hSn hT'⟩
    · rw [g_X4_append, if_pos h1]; rfl
    · rw [g_X5_append, g_X5_in, if_pos h1]; rfl
  · by_cases h2 : 126 < x1
    · have h3 : ¬ x1 ≤ 126 := Int32.not_le.mpr h2
      refine ⟨1, 0, nI m, codes, 0, 1, nI m, text, ?_, ?_, rfl, fun h => absurd h (by decide), RR_up (RB_up hRB) hH hSn hT'⟩
      · rw [g_X4_append, if_neg h1, if_neg h3]; rfl
      · rw [g_X5_append, g_X5_in, if_neg h1, if_pos h2]; rfl
    · have h3 : x1 ≤ 126 := Int32.not_lt.mp h2
      obtain ⟨c, hc1, hc2, rfl⟩ : ∃ c, 33 ≤ c ∧ c ≤ 126 ∧ x1 = nI c := by
        have h0 : ¬ x1 < 0 := fun q => by
          rw [Int32.lt_iff_toInt_lt] at q h1
          have a0 : (0 : Int32).toInt = 0 := by decide
          have a1 : (33 : Int32).toInt = 33 := by decide
          omega
        obtain ⟨j, hj, rfl⟩ := nI_of h0
        refine ⟨j, ?_, (nI_leI (b := 126) hj (by decide)).mp h3, rfl⟩
        refine Nat.le_of_not_lt (fun w => h1 (nI_lt (b := 33) w (by decide)))
      by_cases h6 : m = 60
      · subst h6
        refine ⟨2, 0, nI 60, codes, 0, 2, nI 60, text, ?_, ?_, rfl, fun h => absurd h (by decide), RR_up (RB_up hRB) hH hSn hT'⟩
        · rw [g_X4_append, if_neg h1, if_pos h3, g_X3_size, bd_some, if_neg (show ¬ nI 60 < 60 by decide)]
        · rw [g_X5_append, g_X5_in, if_neg h1, if_neg h2, bd_some, if_neg t10, if_pos (show nI 60 = 60 from rfl)]; rfl
      · have hm6 : m < 60 := by omega
        have hw : ∀ j, j < m + 1 → upd codes m (nI c) j = upd text m (nI c) j ∧ ∃ c', 33 ≤ c' ∧ c' ≤ 126 ∧ upd text m (nI c) j = nI c' := fun j hj => by
          by_cases e : j = m
          · rw [e, pk_us, pk_us]; exact ⟨rfl, c, hc1, hc2, rfl⟩
          · rw [pk_un e, pk_un e]; exact hc j (by omega)
        refine ⟨0, nI (m + 1), nI (m + 1), upd codes m (nI c), nI (m + 1), 0, nI (m + 1), upd text m (nI c), ?_, ?_, rfl, fun _ => rfl, RR_up (RB_up hRB) hH hSn ⟨m + 1, by omega, rfl, rfl, hw⟩⟩
        · rw [g_X4_append, if_neg h1, if_pos h3, g_X3_size, bd_some, if_pos (show nI m < 60 from nI_lt (b := 60) hm6 (by decide)), g_X3_add, past (M := 60) 60 rfl hm6 (by decide), x4_enterN (by decide) hm6, bd_some, nI_1, b2_some]; rfl
        · rw [g_X5_append, g_X5_in, if_neg h1, if_neg h2, bd_some, if_neg t10, if_neg (show ¬ nI m = 60 from fun q => h6 ((nI_eq (b := 60) (by omega) (by decide)).mp q)), g_X5_append_J1, x5_holds0, b2_some, if_neg t10, wrA_n hm6 (by decide), nI_1]
