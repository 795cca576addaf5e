/-! opening carried out; what centres there would be -/
section OC
variable {K n : Nat} {bN bO bC s : Nat → Int32}
theorem x_opens (hok : okS K n s) (hE : eqB n bN bO bC s) {dr re sd : Nat → Int32} (h1 : ∀ a, a < n → re a = wyS n (av s) a ∧ dr a = drS n (av s) a ∧ sd a = pfS n (av s) a) (q1 q2 q3 q4 q5 q6 q7 q8 : Nat → Int32) :
    ∃ r m C1 N1 C2 N2 s2 y1 y2 y3 y4 y5 y6 y7 y8, g_X2_carryOut_L1 dr re FU 0 0 bC bN = some (r, C1, N1) ∧ g_X2_settle N1 sd C1 = some (N2, C2) ∧
      g_X5_opens s q1 q2 q3 q4 q5 q6 q7 q8 = some (r, upd s2 2 (s2 2 + 1), y1, y2, y3, y4, y5, y6, y7, y8) ∧ okS (K + 1) m s2 ∧ eqB m N2 bO C2 s2 ∧ INV n (av s) (pfS n (av s)) 0 m s2 ∧ ∀ k, k < 4 → s2 (10 + k) = s (10 + k) := by
  have hS := hok.sb hE
  obtain ⟨cu, co, st, fa, dr2, wy, dn, pl, g1, g2⟩ := x5_opening hS.mb hok.d q1 q2 q3 q4 q5 q6 q7 q8
  obtain ⟨r, m, C1, N1, C2, N2, s1, s2, k1, k2, k3, k4, k5, k6, k7, k8, k9⟩ := x_carry hok hE h1 (fun a ha => ⟨(g2 a ha).2.2.2.1, (g2 a ha).2.2.2.2.1, (g2 a ha).2.2.2.2.2.2⟩)
  refine ⟨r, m, C1, N1, C2, N2, s2, cu, co, st, fa, dr2, wy, dn, pl, k1, k2, ?_, k6, k7, k8, k9⟩
  rw [g_X5_opens, g1, b8_some, k3, b2_some, r77_9, k4, k5, bd_some, r77_2, w77_2]
/-- the next season -/
theorem x_season {sm : Int32} (hok : okS K n s) (hE : eqB n bN bO bC s) (r : Int32) (f y1 y2 y3 y4 y5 y6 y7 y8 : Nat → Int32) : ∃ N' C' O' s', g_X0_beginNextSeason bN bC bO = some (N', C', O') ∧
    (if s 1 = 1 then (g_X5_endsYear s).bind fun f14 => g_X5_open_J1 r sm f y1 y2 y3 y4 y5 y6 y7 y8 f14 else g_X5_open_J1 r sm f y1 y2 y3 y4 y5 y6 y7 y8 s) = some (r, 0, sm, s', f, y1, y2, y3, y4, y5, y6, y7, y8) ∧ RB K N' O' C' s' := by
  have e1 : bN 2 = s 1 := hE.2.1 1 (by decide)
  have n2 : g_X0_number bN 2 = some (s 1) := (x0_number (k := 2) (by decide)).trans (by rw [e1])
  rcases hok.2.2.1 with h | h
  · have hE2 : eqB n (upd bN 2 1) bO bC (upd s 1 1) := eqB_num hok hE (k := 1) (by decide) 1
    have en : g_X4_enter 10 bN 2 1 = some (upd bN 2 1) := x4_enterN (a := 2) (by decide) (by decide)
    refine ⟨upd bN 2 1, bC, bO, upd s 1 1, ?_, ?_, n, okS_sea hok (Or.inr rfl), hE2⟩
    · rw [g_X0_beginNextSeason, n2, bd_some, h, if_pos rfl, en, bd_some]
    · rw [h, if_neg (by decide), g_X5_open_J1, r77_1, w77_1, h]; rfl
  · obtain ⟨m, O', C', N', s', k1, k2, k3, k4, k5⟩ := x_year hok hE
    have hs1 : s' 1 = 1 := k5.trans h
    have n1 : N' 1 = s' 0 := k4.2.1 0 (by decide)
    have hE2 : eqB m (upd (upd N' 1 (s' 0 + 1)) 2 0) O' C' (upd (upd s' 0 (s' 0 + 1)) 1 0) := eqB_num (okS_low k3 _ (Or.inl rfl)) (eqB_num k3 k4 (k := 0) (by decide) (s' 0 + 1)) (k := 1) (by decide) 0
    have en : g_X4_enter 10 N' 2 0 = some (upd N' 2 0) := x4_enterN (a := 2) (by decide) (by decide)
    have co : g_X0_countOne (upd N' 2 0) 1 = some (upd (upd N' 2 0) 1 (s' 0 + 1)) := (x0_count (k := 1) (by decide)).trans (by rw [pk_un (by decide), n1])
    have hok2 : okS K m (upd (upd s' 0 (s' 0 + 1)) 1 0) := okS_sea (okS_low k3 _ (Or.inl rfl)) (Or.inl rfl)
    have hRB : RB K (upd (upd N' 1 (s' 0 + 1)) 2 0) O' C' (upd (upd s' 0 (s' 0 + 1)) 1 0) := ⟨m, hok2, hE2⟩
    refine ⟨upd (upd N' 2 0) 1 (s' 0 + 1), C', O', upd (upd s' 0 (s' 0 + 1)) 1 0, ?_, ?_, RB_c hRB (fun j hj => ?_) (fun _ _ => rfl) (fun _ _ => rfl) (fun _ _ => rfl)⟩
    · rw [g_X0_beginNextSeason, n2, bd_some, h, if_neg t10, k1, b3_some, en, bd_some, co, bd_some]
    · rw [h, if_pos rfl, k2, bd_some, g_X5_open_J1, r77_1, w77_1, pk_un (by decide), hs1]; rfl
    · by_cases a1 : j = 1
      · rw [a1, pk_us, pk_un (by decide), pk_us]
      · rw [pk_un a1]
        by_cases a2 : j = 2
        · rw [a2, pk_us, pk_us]
        · rw [pk_un a2, pk_un a2, pk_un a1]
/-- the owner of a centre behind an opening -/
theorem x2_ownerT {v : Nat → Nat → Int32} {sd : Nat → Int32} (h : CB n v bN bC) {f : Nat} (hf : f < 12) : (∃ a, a < n ∧ sd a = nI f ∧ g_X2_ownerThen bN bO sd bC (nI f) = some (v a 0)) ∨ ((∀ a, a < n → ¬ sd a = nI f) ∧ g_X2_ownerThen bN bO sd bC (nI f) = some (bO f)) := by
  have hn := h.1
  have step : ∀ nf j, j < n → ¬ sd j = nI f → g_X2_ownerThen_L1 bN bO (nI f) sd bC (nf + 1) (nI j) = g_X2_ownerThen_L1 bN bO (nI f) sd bC nf (nI (j + 1)) := fun nf j hj e => by
    rw [g_X2_ownerThen_L1, x0_number0 h, bd_some, go_on hn hj, x4_entry (show j < 9 by omega), bd_some, if_neg e, nI_1]
  rcases fi_cases n (fun a => sd a = nI f) with ⟨a, h1, h2, h3, _⟩ | ⟨h3, _⟩
  · refine Or.inl ⟨a, h1, h2, ?_⟩
    have hrun := lpR (fun nf i => g_X2_ownerThen_L1 bN bO (nI f) sd bC nf (nI i)) a (FU - a) 0 (fun nf j _ hj => step nf j (by omega) (h3 j (by omega)))
    rw [show FU - a + a = FU by show 5000 - a + a = 5000; omega, Nat.zero_add] at hrun
    refine hrun.trans ?_
    rw [show FU - a = (4999 - a) + 1 by show 5000 - a = _; omega, g_X2_ownerThen_L1, x0_number0 h, bd_some, go_on hn h1, x4_entry (show a < 9 by omega), bd_some, if_pos h2, x0_of0 h h1, bd_some]
  · refine Or.inr ⟨h3, ?_⟩
    have hrun := lpR (fun nf i => g_X2_ownerThen_L1 bN bO (nI f) sd bC nf (nI i)) n (FU - n) 0 (fun nf j _ hj => step nf j (by omega) (h3 j (by omega)))
    rw [show FU - n + n = FU by show 5000 - n + n = 5000; omega, Nat.zero_add] at hrun
    refine hrun.trans ?_
    rw [show FU - n = (4999 - n) + 1 by show 5000 - n = _; omega, g_X2_ownerThen_L1, x0_number0 h, bd_some, go_out hn, x0_owner hf, bd_some]
noncomputable def owT (n : Nat) (v : Nat → Nat → Int32) (sd bO : Nat → Int32) (f : Nat) : Int32 := if (fi n fun a => sd a = nI f) = -1 then bO f else v (fi n fun a => sd a = nI f).toNatClampNeg 0
theorem x2_owT {v : Nat → Nat → Int32} {sd : Nat → Int32} (h : CB n v bN bC) {f : Nat} (hf : f < 12) : g_X2_ownerThen bN bO sd bC (nI f) = some (owT n v sd bO f) := by
  have hn := h.1
  have step : ∀ nf j, j < n → ¬ sd j = nI f → g_X2_ownerThen_L1 bN bO (nI f) sd bC (nf + 1) (nI j) = g_X2_ownerThen_L1 bN bO (nI f) sd bC nf (nI (j + 1)) := fun nf j hj e => by
    rw [g_X2_ownerThen_L1, x0_number0 h, bd_some, go_on hn hj, x4_entry (show j < 9 by omega), bd_some, if_neg e, nI_1]
  unfold owT
  rcases fi_cases n (fun a => sd a = nI f) with ⟨a, h1, h2, h3, h4⟩ | ⟨h3, h4⟩
  · rw [h4, if_neg (nI_m1 (by omega)), nI_clamp (by omega)]
    have hrun := lpR (fun nf i => g_X2_ownerThen_L1 bN bO (nI f) sd bC nf (nI i)) a (FU - a) 0 (fun nf j _ hj => step nf j (by omega) (h3 j (by omega)))
    rw [show FU - a + a = FU by show 5000 - a + a = 5000; omega, Nat.zero_add] at hrun
    refine hrun.trans ?_
    rw [show FU - a = (4999 - a) + 1 by show 5000 - a = _; omega, g_X2_ownerThen_L1, x0_number0 h, bd_some, go_on hn h1, x4_entry (show a < 9 by omega), bd_some, if_pos h2, x0_of0 h h1, bd_some]
  · rw [h4, if_pos rfl]
    have hrun := lpR (fun nf i => g_X2_ownerThen_L1 bN bO (nI f) sd bC nf (nI i)) n (FU - n) 0 (fun nf j _ hj => step nf j (by omega) (h3 j (by omega)))
    rw [show FU - n + n = FU by show 5000 - n + n = 5000; omega, Nat.zero_add] at hrun
    refine hrun.trans ?_
    rw [show FU - n = (4999 - n) + 1 by show 5000 - n = _; omega, g_X2_ownerThen_L1, x0_number0 h, bd_some, go_out hn, x0_owner hf, bd_some]
theorem x2_centT {v : Nat → Nat → Int32} {sd : Nat → Int32} (h : CB n v bN bC) (x : Int32) : g_X2_centresThen bN bO sd bC x = some (nI (num 12 fun f => f % 3 = 0 ∧ owT n v sd bO f = x)) := by
  rw [g_X2_centresThen, bd_id]
  refine lpC (fun nf i z => g_X2_centresThen_L1 bN bO sd bC x nf z (nI i)) 12 _ (by decide) (fun nf i z hi => ?_) (fun nf z => ?_)
  · rw [g_X2_centresThen_L1, past (M := 12) 12 rfl hi (by decide), cent_2 i hi, bd_some, x2_owT h hi, bd_some, nI_1, i_add0]
    by_cases e : i % 3 = 0
    · by_cases e2 : owT n v sd bO i = x
      · exact Or.inl ⟨⟨e, e2⟩, by rw [if_pos e, if_neg t10, if_pos e2]⟩
      · exact Or.inr ⟨fun w => e2 w.2, by rw [if_pos e, if_neg t10, if_neg e2]⟩
    · exact Or.inr ⟨fun w => e w.1, by rw [if_neg e, if_pos rfl]⟩
  · rw [g_X2_centresThen_L1, pastE (M := 12) 12 rfl (Nat.le_refl _) (by decide)]
theorem x_cent (hok : okS K n s) (hE : eqB n bN bO bC s) {sd : Nat → Int32} (hsd : ∀ a, a < n → sd a = pfS n (av s) a) (q : Nat) (q0 q1 q2 q3 q4 q5 q6 q7 q8 : Nat → Int32) :
    ∃ r s' y0 y1 y2 y3 y4 y5 y6 y7 y8, g_X2_centresThen bN bO sd bC (nI q) = some r ∧ g_X5_centresThen s q0 q1 q2 q3 q4 q5 q6 q7 q8 (nI q) = some (r, s', y0, y1, y2, y3, y4, y5, y6, y7, y8) ∧ ∀ j, j < 77 → s' j = s j := by
  have hS := hok.sb hE
  have hn := hok.1
  obtain ⟨as, a1, a2⟩ := x5_putAside s q0
  obtain ⟨r, m, C1, N1, C2, N2, s2, y1, y2, y3, y4, y5, y6, y7, y8, k1, k2, k3, k4, k5, k6, k7⟩ := x_opens (re := wyS n (av s)) (dr := drS n (av s)) hok hE (fun a ha => ⟨rfl, rfl, hsd a ha⟩) q1 q2 q3 q4 q5 q6 q7 q8
  have hok3 := okS_low k4 (j := 2) (s2 2 + 1) (Or.inr (Or.inl rfl))
  have hm3 : MB m (av (upd s2 2 (s2 2 + 1))) (upd s2 2 (s2 2 + 1)) := ⟨hok3.1, hok3.2.1, fun _ _ _ _ => rfl⟩
  have hav : ∀ a w, av (upd s2 2 (s2 2 + 1)) a w = av s2 a w := fun a w => by unfold av; exact pk_un (by omega)
  obtain ⟨s4, b1, b2, b3⟩ := x5_belongs hm3 hok3.d
  obtain ⟨s5, c1, c2⟩ := x5_putBack as s4
  refine ⟨nI (num 4 fun k => s4 (10 + k) = nI q), s5, as, y1, y2, y3, y4, y5, y6, y7, y8, ?_, ?_, fun j hj => by rw [c2 j hj, a2 j hj]⟩
  · rw [x2_centT hS.cb, num_mul3 _ (fun f _ h3 w => h3 w.1)]
    refine congrArg (fun z => some (nI z)) (num_c (fun k hk => ?_))
    have key : owT n (av s) sd bO (3 * k) = s4 (10 + k) := by
      rw [b3 k hk, pk_un (by omega), k7 k hk]
      unfold owT
      rcases fi_cases n (fun a => sd a = nI (3 * k)) with ⟨a, h1, h2, _, h4⟩ | ⟨h3, h4⟩
      · rw [h4, if_neg (nI_m1 (by omega)), nI_clamp (by omega)]
        rw [hsd a h1] at h2
        obtain ⟨j, _, j2, j3, j4⟩ := k6.2.2.1 a (Nat.zero_le _) h1 (fun w => nI_m1 (a := 3 * k) (by omega) (h2.symm.trans w))
        rw [ownP_on hok3.1 hok3.d j2 (by rw [hav j 1, j4]; exact h2), hav j 0, j3]
      · rw [h4, if_pos rfl, ownP_no, hE.2.2.1 k hk]
        intro j hj e
        rw [hav j 1] at e
        obtain ⟨a, _, a2, _, _, a5, _⟩ := k6.2.1 j (Nat.zero_le _) hj
        exact h3 a a2 (by rw [hsd a a2, ← a5]; exact e)
    rw [key]
    exact ⟨fun w => w.2, fun w => ⟨by omega, w⟩⟩
  · rw [g_X5_centresThen, a1, bd_some, k3, b10_some, b1, bd_some, x5_centresOf, bd_some, c1, bd_some]
end OC
