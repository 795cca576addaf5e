/-! p26: the end of a year, with what it counts -/
theorem num_skip {P : Nat → Prop} {a : Nat} (hP : ¬ P a) : ∀ m, a < m → num (m - 1) (fun b => P (if b < a then b else b + 1)) = num m P := by
  intro m
  induction m with
  | zero => intro h; omega
  | succ m ih =>
    intro h
    by_cases e : a = m
    · subst e
      rw [num_f hP, Nat.add_sub_cancel]
      exact num_c (fun c hc => by rw [if_pos hc])
    · have ih' := ih (by omega)
      obtain ⟨k, rfl⟩ : ∃ k, m = k + 1 := ⟨m - 1, by omega⟩
      rw [Nat.add_sub_cancel] at ih' ⊢
      have hk : ¬ k < a := by omega
      have hR : P (if k < a then k else k + 1) ↔ P (k + 1) := by rw [if_neg hk]
      by_cases q : P (k + 1)
      · rw [num_t (P := P) q, num_t (n := k) (P := fun b => P (if b < a then b else b + 1)) (hR.mpr q), ih']
      · rw [num_f (P := P) q, num_f (n := k) (P := fun b => P (if b < a then b else b + 1)) (fun w => q (hR.mp w)), ih']
section YG
variable {K n : Nat} {bN bO bC s : Nat → Int32}
/-- how many armies a seat has -/
noncomputable def sn (n : Nat) (s : Nat → Int32) (q : Nat) : Nat := num n (fun a => av s a 0 = nI q)
theorem goes_sn (hok : okS K n s) {a : Nat} (ha : a < n) {s' : Nat → Int32} (h : ∀ b w, b < n - 1 → w < 7 → av s' b w = av s (if b < a then b else b + 1) w) {q : Nat} (hq : q < 3) (e : av s a 0 = nI q) : sn (n - 1) s' q + 1 = sn n s q ∧ ∀ q', q' < 3 → q' ≠ q → sn (n - 1) s' q' = sn n s q' := by
  constructor
  · have := num_del (P := fun a => av s a 0 = nI q) e n ha
    unfold sn
    rw [← this]
    exact congrArg (· + 1) (num_c (fun b hb => by rw [h b 0 hb (by decide)]))
  · intro q' hq' hne
    have hP : ¬ av s a 0 = nI q' := fun w => hne ((nI_eq (by omega) (by omega)).mp (w.symm.trans e))
    have := num_skip (P := fun a => av s a 0 = nI q') hP n ha
    unfold sn
    rw [← this]
    exact num_c (fun b hb => by rw [h b 0 hb (by decide)])
theorem RB_sets2 (h : okS K n s) (hE : eqB n bN bO bC s) (hn : n < 9) {q f : Nat} (hq : q < 3) (hf : f < 12) (hno : ∀ b, b < n → ¬ av s b 1 = nI f) : ∃ C' s', g_X0_setUp bN bC (nI q) (nI f) = some (nI n, upd bN 0 (nI (n + 1)), C') ∧ okS K (n + 1) s' ∧ eqB (n + 1) (upd bN 0 (nI (n + 1))) bO C' s' ∧ (∀ j, j < 14 → j ≠ 9 → s' j = s j) ∧ (∀ b w, b < n → w < 7 → av s' b w = av s b w) ∧ av s' n 0 = nI q ∧ av s' n 1 = nI f ∧ av s' n 2 = 0 := by
  obtain ⟨C', s', h1, h2, h3, h4, h5, h6⟩ := (h.sb hE).sets hn (nI q) (nI f)
  have e0 : av s' n 0 = nI q := h6 0 (by decide)
  have e1 : av s' n 1 = nI f := h6 1 (by decide)
  have e2 : av s' n 2 = 0 := h6 2 (by decide)
  have e3 : av s' n 3 = -1 := h6 3 (by decide)
  have e4 : av s' n 4 = -1 := h6 4 (by decide)
  refine ⟨C', s', h1, okS_of h (by omega) h3.2.1 h4 (fun b hb => ?_) (fun b c hb hc e => ?_), h3.2.2, h4, h5, e0, e1, e2⟩
  · by_cases e : b = n
    · subst e
      exact ⟨⟨q, hq, e0⟩, f, hf, e1, Or.inl ⟨e2, e3, e4⟩⟩
    · exact okA_c (fun w hw => h5 b w (by omega) (by omega)) (h.arm (by omega))
  · by_cases eb : b = n
    · by_cases ec : c = n
      · omega
      · rw [eb, e1, h5 c 1 (by omega) (by decide)] at e
        exact absurd e.symm (hno c (by omega))
    · by_cases ec : c = n
      · rw [ec, e1, h5 b 1 (by omega) (by decide)] at e
        exact absurd e (hno b (by omega))
      · rw [h5 b 1 (by omega) (by decide), h5 c 1 (by omega) (by decide)] at e
        exact h.d b c (by omega) (by omega) e
/-- armies of a seat are taken off, so many as are too many -/
theorem y_takeOff {q : Nat} (hq : q < 3) : ∀ (i nf m left : Nat) (C N s : Nat → Int32), i ≤ m → okS K m s → eqB m N bO C s → (∀ j, i ≤ j → j < m → ¬ av s j 0 = nI q) → left ≤ sn m s q → i < nf →
    ∃ m' C' N' s', g_X0_takeOff_L1 (nI q) nf (nI left) (nI i - 1) C N = some (C', N') ∧ okS K m' s' ∧ eqB m' N' bO C' s' ∧ sn m' s' q + left = sn m s q ∧ (∀ q', q' < 3 → q' ≠ q → sn m' s' q' = sn m s q') ∧ m' + left = m ∧ s' 8 = s 8 + nI left ∧ (∀ j, j < 14 → j ≠ 9 → j ≠ 8 → s' j = s j) ∧ ((∀ a, a < m → av s a 2 = 0) → ∀ a, a < m' → av s' a 2 = 0) := by
  intro i
  induction i with
  | zero =>
    intro nf m left C N s _ hok hE hno hle hf
    have h0 : sn m s q = 0 := num_none m (fun a ha => hno a (Nat.zero_le _) ha)
    obtain rfl : left = 0 := by omega
    obtain ⟨nf, rfl⟩ : ∃ k, nf = k + 1 := ⟨nf - 1, by omega⟩
    exact ⟨m, C, N, s, by rw [g_X0_takeOff_L1, if_pos (by decide)], hok, hE, rfl, fun _ _ _ => rfl, rfl, (i_add0 _).symm, fun _ _ _ _ => rfl, fun h => h⟩
  | succ i ih =>
    intro nf m left C N s him hok hE hno hle hf
    have hS := hok.sb hE
    have hm9 := hok.1
    have hneg : ¬ nI i < 0 := nI_pos (by omega)
    have em1 : nI i + (-1) = nI i - 1 := (Int32.sub_eq_add_neg _ _).symm
    have hsn : sn m s q ≤ m := num_le m _
    obtain ⟨nf, rfl⟩ : ∃ k, nf = k + 1 := ⟨nf - 1, by omega⟩
    cases left with
    | zero =>
      exact ⟨m, C, N, s, by rw [nI_pred, g_X0_takeOff_L1, if_neg hneg, if_pos (show nI 0 ≤ 0 by decide)], hok, hE, rfl, fun _ _ _ => rfl, rfl, (i_add0 _).symm, fun _ _ _ _ => rfl, fun h => h⟩
    | succ l =>
      by_cases e : av s i 0 = nI q
      · obtain ⟨C2, s2, g1, _, g3, g4, g5, g6⟩ := RB_goes hok hE (show i < m by omega)
        obtain ⟨n1, n2⟩ := goes_sn hok (show i < m by omega) g6 hq e
        have hok3 : okS K (m - 1) (upd s2 8 (s2 8 + 1)) := okS_low g3 _ (by omega)
        have hE3 : eqB (m - 1) (upd (upd N 0 (nI (m - 1))) 9 (s2 8 + 1)) bO C2 (upd s2 8 (s2 8 + 1)) := eqB_num g3 g4 (k := 8) (by decide) _
        have n9 : upd N 0 (nI (m - 1)) 9 = s2 8 := g4.2.1 8 (by decide)
        have hav : ∀ b w, w < 7 → av (upd s2 8 (s2 8 + 1)) b w = av s2 b w := fun b w hw => by unfold av; exact pk_un (by omega)
        have hsnu : ∀ q', sn (m - 1) (upd s2 8 (s2 8 + 1)) q' = sn (m - 1) s2 q' := fun q' => num_c (fun b _ => by rw [hav b 0 (by decide)])
        obtain ⟨m', C', N', s', k1, k2, k3, k4, k5, k6, k7, k8, k9⟩ := ih nf (m - 1) l C2 (upd (upd N 0 (nI (m - 1))) 9 (s2 8 + 1)) (upd s2 8 (s2 8 + 1)) (by omega) hok3 hE3
          (fun j h1 h2 => by rw [hav j 0 (by decide), g6 j 0 h2 (by decide), if_neg (by omega)]; exact hno (j + 1) (by omega) (by omega))
          (by rw [hsnu]; omega) (by omega)
        have co : g_X0_countOne (upd N 0 (nI (m - 1))) 9 = some (upd (upd N 0 (nI (m - 1))) 9 (s2 8 + 1)) := (x0_count (k := 9) (by decide)).trans (by rw [n9])
        rw [hsnu] at k4
        refine ⟨m', C', N', s', ?_, k2, k3, by omega, fun q' hq' hne => by rw [k5 q' hq' hne, hsnu, n2 q' hq' hne], by omega, ?_, fun j z1 z2 z3 => by rw [k8 j z1 z2 z3, pk_un z3, g5 j z1 z2], fun hz => k9 (fun a ha => ?_)⟩
        · rw [nI_pred, g_X0_takeOff_L1, if_neg hneg, if_neg (nI_nle (by omega) (by omega)), x0_of0 hS.cb (by omega), bd_some, if_pos e, g1, b2_some, co, bd_some, pk_m1, em1]
          exact k1
        · rw [k7, pk_us, g5 8 (by decide) (by decide), Int32.add_assoc, Int32.add_comm 1, nI_1]
        · rw [hav a 2 (by decide), g6 a 2 ha (by decide)]
          exact hz _ (by split <;> omega)
      · obtain ⟨m', C', N', s', k1, k2⟩ := ih nf m (l + 1) C N s (by omega) hok hE (fun j h1 h2 => by
          by_cases q' : j = i
          · rw [q']; exact e
          · exact hno j (by omega) h2) hle (by omega)
        refine ⟨m', C', N', s', ?_, k2⟩
        rw [nI_pred, g_X0_takeOff_L1, if_neg hneg, if_neg (nI_nle (by omega) (by omega)), x0_of0 hS.cb (by omega), bd_some, if_neg e, em1]
        exact k1
/-- an army is built, or none -/
theorem y_build (hok : okS K n s) (hE : eqB n bN bO bC s) {q : Nat} (hq : q < 3) : ∃ u N' C' s', u ≤ 1 ∧ g_X0_build bN bO bC (nI q) = some (N', C') ∧ okS K (n + u) s' ∧ eqB (n + u) N' bO C' s' ∧ sn (n + u) s' q = sn n s q + u ∧ (∀ q', q' < 3 → q' ≠ q → sn (n + u) s' q' = sn n s q') ∧ s' 7 = s 7 + nI u ∧ (∀ j, j < 14 → j ≠ 9 → j ≠ 7 → s' j = s j) ∧ ((∀ a, a < n → av s a 2 = 0) → ∀ a, a < n + u → av s' a 2 = 0) := by
  have hS := hok.sb hE
  have hn := hok.1
  have hN0 : g_X0_number bN 0 = some (nI n) := x0_number0 hS.cb
  by_cases h9 : n < 9
  · have hlt : nI n < 9 := nI_lt (b := 9) h9 (by decide)
    have hno : ∀ (f : Nat), f < 12 → ¬ (bO f = nI q ∧ ∀ a, a < n → ¬ av s a 1 = nI f) → ∀ nf, g_X0_build_L1 bO (nI q) (nf + 1) (nI f) bC bN = g_X0_build_L1 bO (nI q) nf (nI (f + 1)) bC bN := fun f hf hor nf => by
      rw [g_X0_build_L1, past (M := 12) 12 rfl hf (by decide), x0_owner hf, bd_some, x0_armyOn hS.cb, bd_some, nI_1]
      by_cases e1 : bO f = nI q
      · rw [if_pos e1]
        rcases on_cases hn hok.d (nI f) with ⟨o, ho, e, hfo⟩ | ⟨e, hfo⟩
        · rw [hfo, if_neg (nI_m1 (by omega))]
        · exact absurd ⟨e1, e⟩ hor
      · rw [if_neg e1]
    rcases fi_cases 12 (fun f => bO f = nI q ∧ ∀ a, a < n → ¬ av s a 1 = nI f) with ⟨f, h1, h2, h3, _⟩ | ⟨h3, _⟩
    · obtain ⟨C2, s2, k1, k3, k4, k5, k6, k7, k8, k9⟩ := RB_sets2 hok hE h9 hq h1 h2.2
      have n8 : upd bN 0 (nI (n + 1)) 8 = s2 7 := k4.2.1 7 (by decide)
      have hav : ∀ b w, w < 7 → av (upd s2 7 (s2 7 + 1)) b w = av s2 b w := fun b w hw => by unfold av; exact pk_un (by omega)
      refine ⟨1, upd (upd bN 0 (nI (n + 1))) 8 (s2 7 + 1), C2, upd s2 7 (s2 7 + 1), Nat.le_refl _, ?_, okS_low k3 _ (by omega), eqB_num k3 k4 (k := 7) (by decide) _, ?_, fun q' hq' hne => ?_, ?_, fun j z1 z2 z3 => by rw [pk_un z3, k5 j z1 z2], fun hz a ha => ?_⟩
      · rw [g_X0_build, hN0, bd_some, if_pos hlt]
        have hrun := lpR (fun nf i => g_X0_build_L1 bO (nI q) nf (nI i) bC bN) f (FU - f) 0 (fun nf j h1 h2 => hno j (by omega) (h3 j (by omega)) nf)
        rw [show FU - f + f = FU by show 5000 - f + f = 5000; omega, Nat.zero_add] at hrun
        have co : g_X0_countOne (upd bN 0 (nI (n + 1))) 8 = some (upd (upd bN 0 (nI (n + 1))) 8 (s2 7 + 1)) := (x0_count (k := 8) (by decide)).trans (by rw [n8])
        refine hrun.trans ?_
        rw [show FU - f = (4999 - f) + 1 by show 5000 - f = _; omega, g_X0_build_L1, past (M := 12) 12 rfl h1 (by decide), x0_owner h1, bd_some, if_pos h2.1, x0_armyOn hS.cb, bd_some, fi_none h2.2, if_pos rfl, k1, b3_some, co, bd_some]
      · unfold sn
        rw [num_t (n := n) (P := fun a => av (upd s2 7 (s2 7 + 1)) a 0 = nI q) ((hav n 0 (by decide)).trans k7)]
        exact congrArg (· + 1) (num_c (fun b hb => by rw [hav b 0 (by decide), k6 b 0 hb (by decide)]))
      · unfold sn
        rw [num_f (n := n) (P := fun a => av (upd s2 7 (s2 7 + 1)) a 0 = nI q') (fun w => hne ((nI_eq (by omega) (by omega)).mp (w.symm.trans ((hav n 0 (by decide)).trans k7))))]
        exact num_c (fun b hb => by rw [hav b 0 (by decide), k6 b 0 hb (by decide)])
      · rw [pk_us, k5 7 (by decide) (by decide)]; rfl
      · rw [hav a 2 (by decide)]
        by_cases e : a = n
        · rw [e]; exact k9
        · rw [k6 a 2 (by omega) (by decide)]; exact hz a (by omega)
    · refine ⟨0, bN, bC, s, Nat.zero_le _, ?_, hok, hE, rfl, fun _ _ _ => rfl, (i_add0 _).symm, fun _ _ _ _ => rfl, fun h => h⟩
      rw [g_X0_build, hN0, bd_some, if_pos hlt]
      have hrun := lpR (fun nf i => g_X0_build_L1 bO (nI q) nf (nI i) bC bN) 12 4988 0 (fun nf j h1 h2 => hno j (by omega) (h3 j (by omega)) nf)
      refine hrun.trans ?_
      show g_X0_build_L1 bO (nI q) (4987 + 1) (nI 12) bC bN = _
      rw [g_X0_build_L1, pastE (M := 12) 12 rfl (Nat.le_refl _) (by decide)]
  · have h9' : n = 9 := by omega
    refine ⟨0, bN, bC, s, Nat.zero_le _, ?_, hok, hE, rfl, fun _ _ _ => rfl, (i_add0 _).symm, fun _ _ _ _ => rfl, fun h => h⟩
    rw [g_X0_build, hN0, bd_some, h9', if_neg (show ¬ nI 9 < 9 by decide)]
/-- what has come of the armies by the seats below i -/
def YI (K n : Nat) (s bO : Nat → Int32) (i : Nat) (C N : Nat → Int32) : Prop := ∃ m y u w, okS K m y ∧ eqB m N bO C y ∧ (∀ j, j < 14 → j ≠ 9 → j ≠ 8 → j ≠ 7 → y j = s j) ∧ m + w = n + u ∧ y 7 = s 7 + nI u ∧ y 8 = s 8 + nI w ∧ (∀ q, q < i → sn m y q ≤ num 12 (fun f => bO f = nI q) + 1) ∧ ((∀ a, a < n → av s a 2 = 0) → ∀ a, a < m → av y a 2 = 0)
theorem y_yearL (hok : okS K n s) (hE : eqB n bN bO bC s) : ∃ C' N', g_X0_endYear_L1 bO FU 0 bC bN = some (C', N') ∧ YI K n s bO 3 C' N' := by
  obtain ⟨⟨C', N'⟩, h1, h2⟩ := lpF (fun nf i (x : (Nat → Int32) × (Nat → Int32)) => g_X0_endYear_L1 bO nf (nI i) x.1 x.2) 3 (fun i x => YI K n s bO i x.1 x.2) (fun x => YI K n s bO 3 x.1 x.2) (by decide) (bC, bN)
    ⟨n, s, 0, 0, hok, hE, fun _ _ _ _ _ => rfl, rfl, (i_add0 _).symm, (i_add0 _).symm, fun q hq => by omega, fun h => h⟩
    (fun nf i x hi hI => by
      obtain ⟨C, N⟩ := x
      obtain ⟨m, y, u, w, hok, hE, hj, hm, h7, h8, hs, hz⟩ := hI
      replace hE : eqB m N bO C y := hE
      have hS := hok.sb hE
      have hm9 := hok.1
      obtain ⟨c, hc⟩ : ∃ c, num 12 (fun f => bO f = nI i) = c := ⟨_, rfl⟩
      have hc4 : c ≤ 12 := by rw [← hc]; exact num_le _ _
      obtain ⟨A, hA⟩ : ∃ A, num m (fun a => av y a 0 = nI i) = A := ⟨_, rfl⟩
      have hA9 : A ≤ 9 := by have := num_le m (fun a => av y a 0 = nI i); omega
      have hsA : sn m y i = A := hA
      have r1 : g_X0_endYear_L1 bO (nf + 1) (nI i) C N = (if nI A ≤ nI (c + 1) then (if nI c ≤ nI A then g_X0_endYear_L1 bO nf (nI (i + 1)) C N else b2 (g_X0_build N bO C (nI i)) fun f9 f10 => g_X0_endYear_L1 bO nf (nI (i + 1)) f10 f9) else b2 (g_X0_takeOff N C (nI i) (nI A - nI (c + 1))) fun f12 f13 => g_X0_endYear_L1 bO nf (nI (i + 1)) f13 f12) := by
        rw [g_X0_endYear_L1, past (M := 3) 3 rfl hi (by decide), x0_centresOf, bd_some, x0_armiesOf hS.cb, bd_some, bd_some, bd_some, bd_some, hc, hA, nI_1, nI_1]
      by_cases e1 : A ≤ c + 1
      · by_cases e2 : c ≤ A
        · refine Or.inl ⟨(C, N), ⟨m, y, u, w, hok, hE, hj, hm, h7, h8, fun q hq => ?_, hz⟩, ?_⟩
          · by_cases e : q = i
            · subst e; rw [hsA, hc]; exact e1
            · exact hs q (by omega)
          · show g_X0_endYear_L1 bO (nf + 1) (nI i) C N = _
            rw [r1, if_pos (nI_le e1 (by omega)), if_pos (nI_le e2 (by omega))]
        · obtain ⟨d, N', C', y', d1, k1, k2, k3, k4, k5, k6, k7, k8⟩ := y_build hok hE hi
          refine Or.inl ⟨(C', N'), ⟨m + d, y', u + d, w, k2, k3, fun j a1 a2 a3 a4 => by rw [k7 j a1 a2 a4]; exact hj j a1 a2 a3 a4, by omega, by rw [k6, h7, Int32.add_assoc, nI_add], (k7 8 (by decide) (by decide) (by decide)).trans h8, fun q hq => ?_, fun h => k8 (hz h)⟩, ?_⟩
          · by_cases e : q = i
            · subst e; rw [k4, hsA, hc]; omega
            · rw [k5 q (by omega) e]; exact hs q (by omega)
          · show g_X0_endYear_L1 bO (nf + 1) (nI i) C N = _
            rw [r1, if_pos (nI_le e1 (by omega)), if_neg (nI_ge (by omega) (by omega)), k1, b2_some]
      · obtain ⟨l, hl⟩ : ∃ l, A = c + 1 + l := ⟨A - (c + 1), by omega⟩
        obtain ⟨m', C', N', y', k1, k2, k3, k4, k5, k6, k7, k8, k9⟩ := y_takeOff (K := K) (bO := bO) hi m FU m l C N y (Nat.le_refl _) hok hE (fun j h1 h2 => by omega) (by rw [hsA, hl]; omega) (by show m < 5000; omega)
        refine Or.inl ⟨(C', N'), ⟨m', y', u, w + l, k2, k3, fun j a1 a2 a3 a4 => by rw [k8 j a1 a2 a3]; exact hj j a1 a2 a3 a4, by omega, (k8 7 (by decide) (by decide) (by decide)).trans h7, by rw [k7, h8, Int32.add_assoc, nI_add], fun q hq => ?_, fun h => k9 (hz h)⟩, ?_⟩
        · by_cases e : q = i
          · subst e; rw [hc]; rw [hsA] at k4; omega
          · rw [k5 q (by omega) e]; exact hs q (by omega)
        · show g_X0_endYear_L1 bO (nf + 1) (nI i) C N = _
          rw [r1, if_neg (nI_ge (by omega) (by omega)), g_X0_takeOff, x0_number0 hS.cb, bd_some, pk_sub (by omega), show A - (c + 1) = l by omega, k1]; rfl)
    (fun nf x hI => ⟨x, by
      show g_X0_endYear_L1 bO (nf + 1) (nI 3) x.1 x.2 = _
      rw [g_X0_endYear_L1, pastE (M := 3) 3 rfl (Nat.le_refl _) (by decide)], hI⟩)
  exact ⟨C', N', h1, h2⟩
theorem y_year (hok : okS K n s) (hE : eqB n bN bO bC s) : ∃ O' C' N' s1, g_X0_endYear bN bC bO = some (N', C', O') ∧ (∀ k, k < 4 → O' (3 * k) = ownP n (av s) k (bO (3 * k))) ∧ (∀ f, f < 12 → ¬ f % 3 = 0 → O' f = -1) ∧ (∀ j, j < 10 → s1 j = s j) ∧ (∀ a w, av s1 a w = av s a w) ∧ YI K n s1 O' 3 C' N' := by
  have hS := hok.sb hE
  have hF : ∀ a, a < n → ∃ f, f < 12 ∧ av s a 1 = nI f := hok.hF
  obtain ⟨O', g1, g2, g3⟩ := x0_claim (bO := bO) hS.cb hok.d hF
  obtain ⟨s1, g4, g5, g6⟩ := x5_belongs hS.mb hok.d
  have hav : ∀ a w, av s1 a w = av s a w := fun a w => g5 _ (Or.inr (by omega))
  have hok1 : okS K n s1 := by
    have hok' := hok
    obtain ⟨h1, h2, h3, ⟨a, b, ha, hb, e3, e4⟩, h5, h6, h7⟩ := hok'
    exact ⟨h1, by rw [g5 9 (Or.inl (by decide))]; exact h2, by rw [g5 1 (Or.inl (by decide))]; exact h3, ⟨a, b, ha, hb, by rw [g5 3 (Or.inl (by decide))]; exact e3, by rw [g5 4 (Or.inl (by decide))]; exact e4⟩, fun k hk => by rw [g6 k hk]; exact okO_own hok hk, fun a ha => okA_c (fun w _ => hav a w) (h6 a ha), fun a b ha hb e => h7 a b ha hb (by rw [← hav a 1, ← hav b 1]; exact e)⟩
  have hE1 : eqB n bN O' bC s1 := by
    obtain ⟨e1, e2, e3, e4, e5⟩ := hE
    exact ⟨by rw [g5 9 (Or.inl (by decide))]; exact e1, fun k hk => by rw [g5 k (Or.inl (by omega))]; exact e2 k hk, fun k hk => by rw [g2 k hk, g6 k hk, e3 k hk], fun f hf h3 => by rw [g3 f hf h3]; exact e4 f hf h3, fun a w ha hw => by rw [hav a w]; exact e5 a w ha hw⟩
  obtain ⟨C', N', k1, k2⟩ := y_yearL hok1 hE1
  refine ⟨O', C', N', s1, ?_, g2, fun f hf h3 => by rw [g3 f hf h3]; exact hE.2.2.2.1 f hf h3, fun j hj => g5 j (Or.inl hj), hav, k2⟩
  rw [g_X0_endYear, g1, bd_some, k1, b2_some]
end YG
