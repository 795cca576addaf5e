/-! copying rows; the saved states -/
theorem lpCopy (L : Nat → Nat → (Nat → Int32) → Option (Nat → Int32)) (n sp dp : Nat) (src f0 : Nat → Int32) (hn : n < 5000)
    (step : ∀ nf i f, i < n → L (nf + 1) i f = L nf (i + 1) (upd f (dp + i) (src (sp + i)))) (stop : ∀ nf f, L (nf + 1) n f = some f) :
    ∃ g, L FU 0 f0 = some g ∧ (∀ j, j < n → g (dp + j) = src (sp + j)) ∧ ∀ j, j < dp ∨ dp + n ≤ j → g j = f0 j := by
  refine lpF L n (fun i f => (∀ j, j < i → f (dp + j) = src (sp + j)) ∧ ∀ j, j < dp ∨ dp + i ≤ j → f j = f0 j) (fun g => (∀ j, j < n → g (dp + j) = src (sp + j)) ∧ ∀ j, j < dp ∨ dp + n ≤ j → g j = f0 j) hn f0 ⟨fun j hj => by omega, fun j _ => rfl⟩
    (fun nf i f hi hI => Or.inl ⟨_, ⟨fun j hj => ?_, fun j hj => ?_⟩, step nf i f hi⟩) (fun nf f hI => ⟨f, stop nf f, hI⟩)
  · by_cases e : j = i
    · rw [e, pk_us]
    · rw [pk_un (by omega)]; exact hI.1 j (by omega)
  · rw [pk_un (by omega)]; exact hI.2 j (by omega)
theorem x5_putAside (s f : Nat → Int32) : ∃ g, g_X5_putAside s f = some g ∧ ∀ j, j < 77 → g j = s j := by
  obtain ⟨g, h1, h2, _⟩ := lpCopy (fun nf i f => g_X5_putAside_L1 s nf (nI i) f) 77 0 0 s f (by decide)
    (fun nf i f hi => by rw [g_X5_putAside_L1, past (M := 77) 77 rfl hi (by decide), r77 i hi, w77 i hi, nI_1, Nat.zero_add])
    (fun nf f => by rw [g_X5_putAside_L1, pastE (M := 77) 77 rfl (Nat.le_refl _) (by decide)])
  refine ⟨g, by rw [g_X5_putAside, bd_id]; exact h1, fun j hj => ?_⟩
  have := h2 j hj
  rw [Nat.zero_add] at this; exact this
theorem x5_putBack (s f : Nat → Int32) : ∃ g, g_X5_putBack s f = some g ∧ ∀ j, j < 77 → g j = s j := by
  obtain ⟨g, h1, h2, _⟩ := lpCopy (fun nf i f => g_X5_putBack_L1 s nf (nI i) f) 77 0 0 s f (by decide)
    (fun nf i f hi => by rw [g_X5_putBack_L1, past (M := 77) 77 rfl hi (by decide), r77 i hi, w77 i hi, nI_1, Nat.zero_add])
    (fun nf f => by rw [g_X5_putBack_L1, pastE (M := 77) 77 rfl (Nat.le_refl _) (by decide)])
  refine ⟨g, by rw [g_X5_putBack, bd_id]; exact h1, fun j hj => ?_⟩
  have := h2 j hj
  rw [Nat.zero_add] at this; exact this
theorem x5_keepL (s f : Nat → Int32) : ∃ g, g_X5_keep_L1 s FU 0 f = some g ∧ ∀ j, j < 77 → g j = s j := by
  obtain ⟨g, h1, h2, _⟩ := lpCopy (fun nf i f => g_X5_keep_L1 s nf (nI i) f) 77 0 0 s f (by decide)
    (fun nf i f hi => by rw [g_X5_keep_L1, past (M := 77) 77 rfl hi (by decide), r77 i hi, w77 i hi, nI_1, Nat.zero_add])
    (fun nf f => by rw [g_X5_keep_L1, pastE (M := 77) 77 rfl (Nat.le_refl _) (by decide)])
  refine ⟨g, h1, fun j hj => ?_⟩
  have := h2 j hj
  rw [Nat.zero_add] at this; exact this
theorem x5_restoreL (s f : Nat → Int32) : ∃ g, g_X5_restore_L1 s FU 0 f = some g ∧ ∀ j, j < 77 → g j = s j := by
  obtain ⟨g, h1, h2, _⟩ := lpCopy (fun nf i f => g_X5_restore_L1 s nf (nI i) f) 77 0 0 s f (by decide)
    (fun nf i f hi => by rw [g_X5_restore_L1, past (M := 77) 77 rfl hi (by decide), r77 i hi, w77 i hi, nI_1, Nat.zero_add])
    (fun nf f => by rw [g_X5_restore_L1, pastE (M := 77) 77 rfl (Nat.le_refl _) (by decide)])
  refine ⟨g, h1, fun j hj => ?_⟩
  have := h2 j hj
  rw [Nat.zero_add] at this; exact this
theorem ix77 (m i : Nat) : 77 * nI m + nI i = nI (77 * m + i) := by
  rw [show (77 : Int32) = nI 77 from rfl, pk_mul, nI_add]
theorem x5_undoL {m : Nat} (hm : m < 6) (ss f : Nat → Int32) : ∃ g, g_X5_undo_L1 ss (nI (m + 1)) FU 0 f = some g ∧ ∀ j, j < 77 → g j = ss (77 * m + j) := by
  obtain ⟨g, h1, h2, _⟩ := lpCopy (fun nf i f => g_X5_undo_L1 ss (nI (m + 1)) nf (nI i) f) 77 (77 * m) 0 ss f (by decide)
    (fun nf i f hi => by
      rw [g_X5_undo_L1, past (M := 77) 77 rfl hi (by decide), nI_pred, ix77, rdA_n (show 77 * m + i < 462 by omega) (by decide), w77 i hi, nI_1, Nat.zero_add])
    (fun nf f => by rw [g_X5_undo_L1, pastE (M := 77) 77 rfl (Nat.le_refl _) (by decide)])
  refine ⟨g, h1, fun j hj => ?_⟩
  have := h2 j hj
  rw [Nat.zero_add] at this; exact this
theorem x5_save1 {m : Nat} (hm : m < 6) (s f : Nat → Int32) : ∃ g, g_X5_save_L1 s (nI m) FU 0 f = some g ∧ (∀ j, j < 77 → g (77 * m + j) = s j) ∧ ∀ j, j < 77 * m → g j = f j := by
  obtain ⟨g, h1, h2, h3⟩ := lpCopy (fun nf i f => g_X5_save_L1 s (nI m) nf (nI i) f) 77 0 (77 * m) s f (by decide)
    (fun nf i f hi => by
      rw [g_X5_save_L1, past (M := 77) 77 rfl hi (by decide), r77 i hi, ix77, wrA_n (show 77 * m + i < 462 by omega) (by decide), nI_1, Nat.zero_add])
    (fun nf f => by rw [g_X5_save_L1, pastE (M := 77) 77 rfl (Nat.le_refl _) (by decide)])
  refine ⟨g, h1, fun j hj => ?_, fun j hj => h3 j (Or.inl hj)⟩
  have := h2 j hj
  rw [Nat.zero_add] at this; exact this
theorem x5_save3 (s f : Nat → Int32) : ∃ g, g_X5_save_L3 s 6 FU 0 f = some g ∧ (∀ j, j < 77 → g (385 + j) = s j) ∧ ∀ j, j < 385 → g j = f j := by
  have e : ∀ i, 77 * ((6 : Int32) - 1) + nI i = nI (385 + i) := fun i => ix77 5 i
  obtain ⟨g, h1, h2, h3⟩ := lpCopy (fun nf i f => g_X5_save_L3 s 6 nf (nI i) f) 77 0 385 s f (by decide)
    (fun nf i f hi => by
      rw [g_X5_save_L3, past (M := 77) 77 rfl hi (by decide), r77 i hi, e, wrA_n (show 385 + i < 462 by omega) (by decide), nI_1, Nat.zero_add])
    (fun nf f => by rw [g_X5_save_L3, pastE (M := 77) 77 rfl (Nat.le_refl _) (by decide)])
  refine ⟨g, h1, fun j hj => ?_, fun j hj => h3 j (Or.inl hj)⟩
  have := h2 j hj
  rw [Nat.zero_add] at this; exact this
theorem x5_save2 (f : Nat → Int32) : ∃ g, g_X5_save_L2 FU 0 f = some g ∧ ∀ j, j < 385 → g j = f (77 + j) := by
  obtain ⟨g, h1, h2⟩ := lpF (fun nf i g => g_X5_save_L2 nf (nI i) g) 385 (fun i g => (∀ j, j < i → g j = f (77 + j)) ∧ ∀ j, i ≤ j → g j = f j) (fun g => ∀ j, j < 385 → g j = f (77 + j)) (by decide) f ⟨fun j hj => by omega, fun j _ => rfl⟩
    (fun nf i g hi hI => by
      refine Or.inl ⟨upd g i (f (77 + i)), ⟨fun j hj => ?_, fun j hj => ?_⟩, ?_⟩
      · by_cases e : j = i
        · rw [e, pk_us]
        · rw [pk_un e]; exact hI.1 j (by omega)
      · rw [pk_un (by omega)]; exact hI.2 j (by omega)
      · have e7 : 77 + nI i = nI (77 + i) := nI_add 77 i
        rw [g_X5_save_L2, past (M := 385) 385 rfl hi (by decide), e7, rdA_n (show 77 + i < 462 by omega) (by decide), hI.2 (77 + i) (by omega), wrA_n (show i < 462 by omega) (by decide), nI_1])
    (fun nf g hI => ⟨g, by rw [g_X5_save_L2, pastE (M := 385) 385 rfl (Nat.le_refl _) (by decide)], hI.1⟩)
  exact ⟨g, h1, h2⟩
/-! likeness, carried over -/
theorem okA_c {s s' : Nat → Int32} {a a' : Nat} (h : ∀ w, w < 5 → av s' a' w = av s a w) (hA : okA s a) : okA s' a' := by
  unfold okA
  rw [h 0 (by decide), h 1 (by decide), h 2 (by decide), h 3 (by decide), h 4 (by decide)]
  exact hA
theorem RB_c {K : Nat} {bN bO bC s bN' bO' bC' s' : Nat → Int32} (h : RB K bN bO bC s) (hN : ∀ j, j < 10 → bN' j = bN j) (hO : ∀ j, j < 12 → bO' j = bO j) (hC : ∀ j, j < 63 → bC' j = bC j) (hs : ∀ j, j < 77 → s' j = s j) : RB K bN' bO' bC' s' := by
  obtain ⟨n, ⟨h1, h2, h3, ⟨a, b, ha, hb, e3, e4⟩, h5, h6, h7⟩, ⟨g1, g2, g3, g4, g5⟩⟩ := h
  have hav : ∀ a w, a < n → w < 7 → av s' a w = av s a w := fun a w ha hw => hs _ (by omega)
  refine ⟨n, ⟨h1, by rw [hs 9 (by decide)]; exact h2, by rw [hs 1 (by decide)]; exact h3, ⟨a, b, ha, hb, by rw [hs 3 (by decide)]; exact e3, by rw [hs 4 (by decide)]; exact e4⟩, fun k hk => by rw [hs _ (by omega)]; exact h5 k hk, fun a ha => okA_c (fun w hw => hav a w ha (by omega)) (h6 a ha), fun a b ha hb e => h7 a b ha hb ?_⟩, ⟨?_, fun k hk => ?_, fun k hk => ?_, fun f hf hm => ?_, fun a w ha hw => ?_⟩⟩
  · rw [← hav a 1 ha (by decide), ← hav b 1 hb (by decide)]; exact e
  · rw [hN 0 (by decide), hs 9 (by decide)]; exact g1
  · rw [hN _ (by omega), hs k (by omega)]; exact g2 k hk
  · rw [hO _ (by omega), hs _ (by omega)]; exact g3 k hk
  · rw [hO f hf]; exact g4 f hf hm
  · rw [hC _ (by omega), hav a w ha hw]; exact g5 a w ha hw
theorem RB_up {K : Nat} {bN bO bC s : Nat → Int32} (h : RB K bN bO bC s) : RB (K + 1) bN bO bC s := by
  obtain ⟨n, ⟨h1, h2, h3, ⟨a, b, ha, hb, e⟩, h5⟩, h6⟩ := h
  exact ⟨n, ⟨h1, h2, h3, ⟨a, b, by omega, by omega, e⟩, h5⟩, h6⟩
section RRS
variable {K : Nat} {bN bO bC : Nat → Int32} {old sav : Int32} {hN hO hC : Nat → Nat → Int32} {has : Int32} {sN sO sC codes : Nat → Int32} {len : Int32} {s ss : Nat → Int32} {sm : Int32} {snap : Nat → Int32} {kept : Int32} {text : Nat → Int32} {tl : Int32}
theorem RH_up (h : RH K old sav hN hO hC ss sm) : RH (K + 1) old sav hN hO hC ss sm := by
  obtain ⟨o, m, h1, h2, h3, h4, h5, h6⟩ := h
  exact ⟨o, m, h1, h2, h3, h4, h5, fun k hk => RB_up (h6 k hk)⟩
theorem RSn_up (h : RSn K has sN sO sC snap kept) : RSn (K + 1) has sN sO sC snap kept := h.imp id (fun ⟨h1, h2, h3⟩ => ⟨h1, h2, RB_up h3⟩)
theorem RR_up (hB : RB (K + 1) bN bO bC s) (hH : RH K old sav hN hO hC ss sm) (hS : RSn K has sN sO sC snap kept) (hT : RT codes len text tl) : RR (K + 1) bN bO bC old sav hN hO hC has sN sO sC codes len s ss sm snap kept text tl :=
  ⟨hB, RH_up hH, RSn_up hS, hT⟩
theorem cp0 {α : Type} {f g : Nat → α} {n j : Nat} (h : j < n) : va_cpy f g 0 0 n j = f j := by
  rw [pk_cpy_in (Nat.zero_le _) (by omega)]
  exact congrArg f (by omega)
theorem x1_place {o k : Nat} (ho : o < 6) (hk : k < 6) : g_X1_placeOf (nI o) (nI k) = some (nI ((o + k) % 6)) := by
  have e : (nI o + nI k) - (nI o + nI k) / 6 * 6 = nI ((o + k) % 6) := by
    rw [nI_add]; exact pk_rem (d := 6) (by omega) (by decide) (by decide)
  have h6 : (o + k) % 6 < 6 := Nat.mod_lt _ (by decide)
  rw [g_X1_placeOf, if_pos (nI_pos' (by omega)), e, if_neg (nI_pos (by omega)), past (M := 6) 6 rfl h6 (by decide)]
theorem x1_put {o m : Nat} (ho : o < 6) (hm : m < 6) : g_X1_save_J1 hN hO hC bN bO bC (nI m) (nI o) = some (nI o, nI (m + 1), va_up hN ((o + m) % 6) (va_cpy bN (hN ((o + m) % 6)) 0 0 10), va_up hO ((o + m) % 6) (va_cpy bO (hO ((o + m) % 6)) 0 0 12), va_up hC ((o + m) % 6) (va_cpy bC (hC ((o + m) % 6)) 0 0 63)) := by
  have h6 : (o + m) % 6 < 6 := Nat.mod_lt _ (by decide)
  rw [g_X1_save_J1, x1_place ho hm, bd_some, nI_1]
  generalize (o + m) % 6 = p at h6
  rcases (show p = 0 ∨ p = 1 ∨ p = 2 ∨ p = 3 ∨ p = 4 ∨ p = 5 by omega) with rfl | rfl | rfl | rfl | rfl | rfl
  · rw [if_neg (show ¬ nI 0 < 0 by decide), if_pos (show nI 0 = 0 by decide)]; rfl
  · rw [if_neg (show ¬ nI 1 < 0 by decide), if_neg (show ¬ nI 1 = 0 by decide), if_pos (show nI 1 = 1 by decide)]; rfl
  · rw [if_neg (show ¬ nI 2 < 0 by decide), if_neg (show ¬ nI 2 = 0 by decide), if_neg (show ¬ nI 2 = 1 by decide), if_pos (show nI 2 = 2 by decide)]; rfl
  · rw [if_neg (show ¬ nI 3 < 0 by decide), if_neg (show ¬ nI 3 = 0 by decide), if_neg (show ¬ nI 3 = 1 by decide), if_neg (show ¬ nI 3 = 2 by decide), if_pos (show nI 3 = 3 by decide)]; rfl
  · rw [if_neg (show ¬ nI 4 < 0 by decide), if_neg (show ¬ nI 4 = 0 by decide), if_neg (show ¬ nI 4 = 1 by decide), if_neg (show ¬ nI 4 = 2 by decide), if_neg (show ¬ nI 4 = 3 by decide), if_pos (show nI 4 = 4 by decide)]; rfl
  · rw [if_neg (show ¬ nI 5 < 0 by decide), if_neg (show ¬ nI 5 = 0 by decide), if_neg (show ¬ nI 5 = 1 by decide), if_neg (show ¬ nI 5 = 2 by decide), if_neg (show ¬ nI 5 = 3 by decide), if_neg (show ¬ nI 5 = 4 by decide), if_pos (show nI 5 = 5 by decide)]; rfl
theorem x1_take {o m : Nat} (ho : o < 6) (hm : m < 6) : g_X1_takeBack (nI o) (nI (m + 1)) hN hO hC bN bO bC = some (nI m, va_cpy (hN ((o + m) % 6)) bN 0 0 10, va_cpy (hO ((o + m) % 6)) bO 0 0 12, va_cpy (hC ((o + m) % 6)) bC 0 0 63) := by
  have h6 : (o + m) % 6 < 6 := Nat.mod_lt _ (by decide)
  rw [g_X1_takeBack, nI_pred, x1_place ho hm, bd_some]
  generalize (o + m) % 6 = p at h6
  rcases (show p = 0 ∨ p = 1 ∨ p = 2 ∨ p = 3 ∨ p = 4 ∨ p = 5 by omega) with rfl | rfl | rfl | rfl | rfl | rfl
  · rw [if_neg (show ¬ nI 0 < 0 by decide), if_pos (show nI 0 = 0 by decide)]; rfl
  · rw [if_neg (show ¬ nI 1 < 0 by decide), if_neg (show ¬ nI 1 = 0 by decide), if_pos (show nI 1 = 1 by decide)]; rfl
  · rw [if_neg (show ¬ nI 2 < 0 by decide), if_neg (show ¬ nI 2 = 0 by decide), if_neg (show ¬ nI 2 = 1 by decide), if_pos (show nI 2 = 2 by decide)]; rfl
  · rw [if_neg (show ¬ nI 3 < 0 by decide), if_neg (show ¬ nI 3 = 0 by decide), if_neg (show ¬ nI 3 = 1 by decide), if_neg (show ¬ nI 3 = 2 by decide), if_pos (show nI 3 = 3 by decide)]; rfl
  · rw [if_neg (show ¬ nI 4 < 0 by decide), if_neg (show ¬ nI 4 = 0 by decide), if_neg (show ¬ nI 4 = 1 by decide), if_neg (show ¬ nI 4 = 2 by decide), if_neg (show ¬ nI 4 = 3 by decide), if_pos (show nI 4 = 4 by decide)]; rfl
  · rw [if_neg (show ¬ nI 5 < 0 by decide), if_neg (show ¬ nI 5 = 0 by decide), if_neg (show ¬ nI 5 = 1 by decide), if_neg (show ¬ nI 5 = 2 by decide), if_neg (show ¬ nI 5 = 3 by decide), if_neg (show ¬ nI 5 = 4 by decide), if_pos (show nI 5 = 5 by decide)]; rfl
theorem RH_save (h : RH K old sav hN hO hC ss sm) (hB : RB K bN bO bC s) : ∃ old' sav' hN' hO' hC' sm' ss', g_X1_save old sav hN hO hC bN bO bC = some (old', sav', hN', hO', hC') ∧ g_X5_save sm s ss = some (sm', ss') ∧ RH K old' sav' hN' hO' hC' ss' sm' := by
  obtain ⟨o, m, ho, hm, rfl, rfl, rfl, hk⟩ := h
  by_cases e : m = 6
  · subst e
    obtain ⟨s1, a1, a2⟩ := x5_save2 ss
    obtain ⟨s2, a3, a4, a5⟩ := x5_save3 s s1
    have ho' : (o + 1) % 6 < 6 := Nat.mod_lt _ (by decide)
    have e1 : (nI o + 1) - (nI o + 1) / 6 * 6 = nI ((o + 1) % 6) := by
      rw [nI_1]; exact pk_rem (d := 6) (by omega) (by decide) (by decide)
    refine ⟨nI ((o + 1) % 6), nI 6, va_up hN (((o + 1) % 6 + 5) % 6) (va_cpy bN (hN (((o + 1) % 6 + 5) % 6)) 0 0 10), va_up hO (((o + 1) % 6 + 5) % 6) (va_cpy bO (hO (((o + 1) % 6 + 5) % 6)) 0 0 12), va_up hC (((o + 1) % 6 + 5) % 6) (va_cpy bC (hC (((o + 1) % 6 + 5) % 6)) 0 0 63), nI 6, s2, ?_, ?_, (o + 1) % 6, 6, ho', Nat.le_refl _, rfl, rfl, rfl, fun k hk6 => ?_⟩
    · rw [g_X1_save, if_pos (show nI 6 = 6 from rfl), e1]
      exact x1_put ho' (show 5 < 6 by decide)
    · rw [g_X5_save, if_pos (show nI 6 = 6 from rfl), a1, bd_some, show g_X5_save_L3 s (nI 6) FU 0 s1 = some s2 from a3]; rfl
    · by_cases e2 : k = 5
      · subst e2
        rw [va_up_self, va_up_self, va_up_self]
        exact RB_c hB (fun j hj => cp0 hj) (fun j hj => cp0 hj) (fun j hj => cp0 hj) (fun j hj => a4 j hj)
      · have e3 : ((o + 1) % 6 + k) % 6 ≠ ((o + 1) % 6 + 5) % 6 := by omega
        rw [va_up_ne _ _ e3, va_up_ne _ _ e3, va_up_ne _ _ e3, show ((o + 1) % 6 + k) % 6 = (o + (k + 1)) % 6 by omega]
        exact RB_c (hk (k + 1) (by omega)) (fun _ _ => rfl) (fun _ _ => rfl) (fun _ _ => rfl) (fun j hj => by
          show s2 (77 * k + j) = ss (77 * (k + 1) + j)
          rw [a5 _ (by omega), a2 _ (by omega), show 77 + (77 * k + j) = 77 * (k + 1) + j by omega])
  · obtain ⟨s1, a1, a2, a3⟩ := x5_save1 (m := m) (by omega) s ss
    have hne : ¬ nI m = 6 := fun q => e ((nI_eq (b := 6) (by omega) (by decide)).mp q)
    refine ⟨nI o, nI (m + 1), va_up hN ((o + m) % 6) (va_cpy bN (hN ((o + m) % 6)) 0 0 10), va_up hO ((o + m) % 6) (va_cpy bO (hO ((o + m) % 6)) 0 0 12), va_up hC ((o + m) % 6) (va_cpy bC (hC ((o + m) % 6)) 0 0 63), nI (m + 1), s1, ?_, ?_, o, m + 1, ho, by omega, rfl, rfl, rfl, fun k hk6 => ?_⟩
    · rw [g_X1_save, if_neg hne]
      exact x1_put ho (by omega)
    · rw [g_X5_save, if_neg hne, a1, bd_some, nI_1]
    · by_cases e2 : k = m
      · subst e2
        rw [va_up_self, va_up_self, va_up_self]
        exact RB_c hB (fun j hj => cp0 hj) (fun j hj => cp0 hj) (fun j hj => cp0 hj) (fun j hj => a2 j hj)
      · have e3 : (o + k) % 6 ≠ (o + m) % 6 := by omega
        rw [va_up_ne _ _ e3, va_up_ne _ _ e3, va_up_ne _ _ e3]
        exact RB_c (hk k (by omega)) (fun _ _ => rfl) (fun _ _ => rfl) (fun _ _ => rfl) (fun j hj => a3 _ (by omega))
end RRS
