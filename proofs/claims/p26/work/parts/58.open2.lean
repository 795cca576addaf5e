/-! p26: what an opening brings -/
theorem yr_1 (x : Int32) : (x + 1) * 2 + 0 = (x * 2 + 1) + 1 := by
  rw [Int32.add_mul, i_add0, show (1 : Int32) * 2 = 1 + 1 from by decide, ← Int32.add_assoc]
section OB
variable {K n : Nat} {bN bO bC s : Nat → Int32}
def OPP (K n : Nat) (v : Nat → Nat → Int32) (bN bO N' O' C' : Nat → Int32) : Prop := ∃ m s', okS (K + 1) m s' ∧ eqB m N' O' C' s' ∧ N' 1 * 2 + N' 2 = N' 3 ∧
  (N' 4 = bN 4 + nI (num n (goS n v)) ∧ N' 5 = bN 5 + nI (num n (Fx n v)) ∧ N' 6 = bN 6 + nI (num n (drv n v)) ∧ N' 7 = bN 7 + nI (num n fun a => pfS n v a = -1) ∧ N' 2 = 1 - bN 2 ∧ N' 1 = bN 1 + bN 2) ∧ (∀ a, a < m → av s' a 2 = 0) ∧
  (∃ u w, m + w = num n (fun a => ¬ pfS n v a = -1) + u ∧ N' 8 = bN 8 + nI u ∧ N' 9 = bN 9 + nI w) ∧
  (bN 2 = 0 → ∀ a, a < n → ¬ pfS n v a = -1 → num a (fun a => ¬ pfS n v a = -1) < m ∧ av s' (num a fun a => ¬ pfS n v a = -1) 0 = v a 0 ∧ av s' (num a fun a => ¬ pfS n v a = -1) 1 = pfS n v a) ∧
  (bN 2 = 1 → ∀ q, q < 3 → num 12 (fun f => O' f = nI q) = cthN n v bO (nI q) ∧ sn m s' q ≤ num 12 (fun f => O' f = nI q) + 1)
theorem op_owner (hok : okS K n s) (hE : eqB n bN bO bC s) {m : Nat} {s2 s3 O' : Nat → Int32} (hok2 : okS (K + 1) m s3) (hav : ∀ a w, av s3 a w = av s2 a w) (hI : INV n (av s) (pfS n (av s)) 0 m s2) (z2 : ∀ k, k < 4 → O' (3 * k) = ownP m (av s3) k (bO (3 * k))) (z3 : ∀ f, f < 12 → ¬ f % 3 = 0 → O' f = -1) {q : Nat} (hq : q < 3) : num 12 (fun f => O' f = nI q) = cthN n (av s) bO (nI q) := by
  have hn := hok.1
  unfold cthN
  refine num_c (fun f hf => ?_)
  by_cases e3 : f % 3 = 0
  · obtain ⟨k, rfl⟩ : ∃ k, f = 3 * k := ⟨f / 3, by omega⟩
    have hk : k < 4 := by omega
    have key : owT n (av s) (pfS n (av s)) bO (3 * k) = O' (3 * k) := by
      rw [z2 k hk]
      unfold owT
      rcases fi_cases n (fun a => pfS n (av s) a = nI (3 * k)) with ⟨a, h1, h2, _, h4⟩ | ⟨h3, h4⟩
      · rw [h4, if_neg (nI_m1 (by omega)), nI_clamp (by omega)]
        obtain ⟨j, _, j2, j3, j4⟩ := hI.2.2.1 a (Nat.zero_le _) h1 (fun w => nI_m1 (a := 3 * k) (by omega) (h2.symm.trans w))
        rw [ownP_on hok2.1 hok2.d j2 (by rw [hav j 1, j4]; exact h2), hav j 0, j3]
      · rw [h4, if_pos rfl, ownP_no]
        intro j hj e
        rw [hav j 1] at e
        obtain ⟨a, _, a2, _, _, a5, _⟩ := hI.2.1 j (Nat.zero_le _) hj
        exact h3 a a2 (by rw [← a5]; exact e)
    rw [key]
    exact ⟨fun w => ⟨e3, w⟩, fun w => w.2⟩
  · rw [z3 f hf e3]
    exact ⟨fun w => absurd w.symm (nI_m1 (by omega)), fun w => absurd w.1 e3⟩
theorem op_open (hok : okS K n s) (hE : eqB n bN bO bC s) (hy : bN 1 * 2 + bN 2 = bN 3) {old sav : Int32} {hN hO hC : Nat → Nat → Int32} (hH : JH K old sav hN hO hC) (c1 c2 c3 c4 c5 c6 c7 : Nat → Int32) :
    ∃ old' sav' hN' hO' hC' N' O' C' d1 d2 d3 d4 d5 d6 d7, g_X4_open old sav hN hO hC bN bO bC c1 c2 c3 c4 c5 c6 c7 = some (nI (num n (Fx n (av s))), old', sav', hN', hO', hC', N', O', C', d1, d2, d3, d4, d5, d6, d7) ∧ JH K old' sav' hN' hO' hC' ∧ OPP K n (av s) bN bO N' O' C' := by
  have hS := hok.sb hE
  have hn := hok.1
  obtain ⟨old', sav', hN', hO', hC', g1, g2⟩ := JH_save' hH (show JB K bN bO bC from ⟨n, s, hok, hE, hy⟩)
  obtain ⟨cu, co, st, re, dr, wa, sd, e1, e2⟩ := x2_study hS.cb hok.d c1 c2 c3 c4 c5 c6 c7
  obtain ⟨r, m, C1, N1, C2, N2, s1, s2, k1, k2, _, _, _, k6, k7, k8, k9, _⟩ := x_carry2 (fa := fun a => bi (Fx n (av s) a)) (dr2 := drS n (av s)) (pl := pfS n (av s)) hok hE (fun a ha => ⟨(e2 a ha).2.2.2.1, (e2 a ha).2.2.2.2.1, (e2 a ha).2.2.2.2.2⟩) (fun a _ => ⟨rfl, rfl, rfl⟩)
  obtain ⟨C1', N1', j1, j4, j5, j6, j7⟩ := x2_carryN hS.cb hok.d (fun a ha => (e2 a ha).2.2.2.1) (fun a ha => (e2 a ha).2.2.2.2.1)
  have q0 := Option.some.inj (k1.symm.trans j1)
  obtain ⟨q1, q2⟩ := Prod.mk.inj q0
  obtain ⟨q2, q3⟩ := Prod.mk.inj q2
  subst q1; subst q2; subst q3
  have hN10 : N1 0 = nI n := (j7 0 (by decide) (by decide) (by decide)).trans (hok.n0 hE)
  have hn0 : g_X0_number N1 0 = some (nI n) := (x0_number (k := 0) (by decide)).trans (by rw [hN10])
  have k2' := k2
  rw [g_X2_settle, hn0, bd_some] at k2'
  obtain ⟨x1, x2, p1, p2⟩ := b2_ex k2'
  obtain ⟨p3, p4⟩ := Prod.mk.inj (Option.some.inj p2)
  subst p3; subst p4
  obtain ⟨t7, tj⟩ := x2_settleN (p := pfS n (av s)) (fun a ha => (e2 a ha).2.2.2.2.2) hn n FU n C1 N1 _ _ (Nat.le_refl _) (Nat.le_refl _) hn hN10 (by show n < 5000; omega) p1
  have n3 : x2 3 = s2 2 := k7.2.1 2 (by decide)
  have co3 : g_X0_countOne x2 3 = some (upd x2 3 (s2 2 + 1)) := (x0_count (k := 3) (by decide)).trans (by rw [n3])
  have hok3 := okS_low k6 (j := 2) (s2 2 + 1) (Or.inr (Or.inl rfl))
  have hE3 : eqB m (upd x2 3 (s2 2 + 1)) bO x1 (upd s2 2 (s2 2 + 1)) := eqB_num k6 k7 (k := 2) (by decide) _
  have hav : ∀ a w, av (upd s2 2 (s2 2 + 1)) a w = av s2 a w := fun a w => by unfold av; exact pk_un (by omega)
  have b1 : x2 1 = bN 1 := (tj 1 (by decide) (by decide)).trans (j7 1 (by decide) (by decide) (by decide))
  have b2 : x2 2 = bN 2 := (tj 2 (by decide) (by decide)).trans (j7 2 (by decide) (by decide) (by decide))
  have b3 : x2 3 = bN 3 := (tj 3 (by decide) (by decide)).trans (j7 3 (by decide) (by decide) (by decide))
  have b4 : x2 4 = bN 4 + nI (num n (goS n (av s))) := (tj 4 (by decide) (by decide)).trans j4
  have b5 : x2 5 = bN 5 + nI (num n (Fx n (av s))) := (tj 5 (by decide) (by decide)).trans j5
  have b6 : x2 6 = bN 6 + nI (num n (drv n (av s))) := (tj 6 (by decide) (by decide)).trans j6
  have b7 : x2 7 = bN 7 + nI (num n fun a => pfS n (av s) a = -1) := t7.trans (by rw [j7 7 (by decide) (by decide) (by decide)])
  have b8 : x2 8 = bN 8 := (tj 8 (by decide) (by decide)).trans (j7 8 (by decide) (by decide) (by decide))
  have b9 : x2 9 = bN 9 := (tj 9 (by decide) (by decide)).trans (j7 9 (by decide) (by decide) (by decide))
  have hm : m = num n (fun a => ¬ pfS n (av s) a = -1) := by
    have := k9.1
    rw [show num 0 (fun a => ¬ pfS n (av s) a = -1) = 0 from rfl] at this; omega
  have hord : ∀ a, a < n → ¬ pfS n (av s) a = -1 → av s2 (num a fun a => ¬ pfS n (av s) a = -1) 0 = av s a 0 ∧ av s2 (num a fun a => ¬ pfS n (av s) a = -1) 1 = pfS n (av s) a := fun a ha hp => by
    have := k9.2 a (Nat.zero_le _) ha hp
    rw [show num 0 (fun a => ¬ pfS n (av s) a = -1) = 0 from rfl, Nat.zero_add, Nat.sub_zero] at this
    exact this
  have hki : ∀ a, a < m → av s2 a 2 = 0 := fun a ha => by
    obtain ⟨_, _, _, _, _, _, h, _⟩ := k8.2.1 a (Nat.zero_le _) ha
    exact h
  have u2 : upd x2 3 (s2 2 + 1) 2 = bN 2 := (pk_un (by decide)).trans b2
  have nn2 : g_X0_number (upd x2 3 (s2 2 + 1)) 2 = some (bN 2) := (x0_number (k := 2) (by decide)).trans (by rw [u2])
  have s1e : bN 2 = s 1 := hE.2.1 1 (by decide)
  rcases hok.2.2.1 with h | h
  · have h2 : bN 2 = 0 := s1e.trans h
    have en : g_X4_enter 10 (upd x2 3 (s2 2 + 1)) 2 1 = some (upd (upd x2 3 (s2 2 + 1)) 2 1) := x4_enterN (a := 2) (by decide) (by decide)
    have hE4 : eqB m (upd (upd x2 3 (s2 2 + 1)) 2 1) bO x1 (upd (upd s2 2 (s2 2 + 1)) 1 1) := eqB_num hok3 hE3 (k := 1) (by decide) 1
    have hav4 : ∀ a w, av (upd (upd s2 2 (s2 2 + 1)) 1 1) a w = av s2 a w := fun a w => by rw [← hav a w]; unfold av; exact pk_un (by omega)
    have z1 : g_X0_beginNextSeason (upd x2 3 (s2 2 + 1)) x1 bO = some (upd (upd x2 3 (s2 2 + 1)) 2 1, x1, bO) := by
      rw [g_X0_beginNextSeason, nn2, bd_some, h2, if_pos rfl, en, bd_some]
    refine ⟨old', sav', hN', hO', hC', upd (upd x2 3 (s2 2 + 1)) 2 1, bO, x1, cu, co, st, re, dr, wa, sd, ?_, g2, m, upd (upd s2 2 (s2 2 + 1)) 1 1, okS_sea hok3 (Or.inr rfl), hE4, ?_, ⟨?_, ?_, ?_, ?_, ?_, ?_⟩, fun a ha => by rw [hav4 a 2]; exact hki a ha, ⟨0, 0, by omega, ?_, ?_⟩, fun _ a ha hp => ?_, fun h3 => absurd (h2.symm.trans h3) (by decide)⟩
    · rw [g_X4_open, g1, b5_some, e1, b7_some, g_X2_carryOut, k1, b3_some, k2, b2_some, co3, bd_some, z1, b3_some]; rfl
    · rw [pk_un (show 1 ≠ 2 by decide), pk_un (show 1 ≠ 3 by decide), pk_us, pk_un (show 3 ≠ 2 by decide), pk_us, b1, ← n3, b3, ← hy, h2, i_add0]
    · rw [pk_un (by decide), pk_un (by decide)]; exact b4
    · rw [pk_un (by decide), pk_un (by decide)]; exact b5
    · rw [pk_un (by decide), pk_un (by decide)]; exact b6
    · rw [pk_un (by decide), pk_un (by decide)]; exact b7
    · rw [pk_us, h2]; decide
    · rw [pk_un (by decide), pk_un (by decide), h2, i_add0]; exact b1
    · rw [pk_un (by decide), pk_un (by decide), b8]; exact (i_add0 _).symm
    · rw [pk_un (by decide), pk_un (by decide), b9]; exact (i_add0 _).symm
    · refine ⟨?_, ?_⟩
      · rw [hm]; exact num_lt_of (P := fun a => ¬ pfS n (av s) a = -1) ha hp
      · rw [hav4, hav4]; exact hord a ha hp
  · have h2 : bN 2 = 1 := s1e.trans h
    obtain ⟨O', C', Ny, s4, z1, z2, z3, z4, z5, m', y, u, w, y1, y2, y3, y4, y5, y6, y7, y8⟩ := y_year hok3 hE3
    have ny : ∀ k, k < 9 → k ≠ 7 → k ≠ 8 → Ny (k + 1) = upd x2 3 (s2 2 + 1) (k + 1) := fun k hk a7 a8 => by
      rw [y2.2.1 k hk, y3 k (by omega) (by omega) a8 a7, z4 k (by omega), hE3.2.1 k hk]
    have en : g_X4_enter 10 Ny 2 0 = some (upd Ny 2 0) := x4_enterN (a := 2) (by decide) (by decide)
    have n1 : Ny 1 = y 0 := y2.2.1 0 (by decide)
    have co1 : g_X0_countOne (upd Ny 2 0) 1 = some (upd (upd Ny 2 0) 1 (y 0 + 1)) := (x0_count (k := 1) (by decide)).trans (by rw [pk_un (by decide), n1])
    have hok5 : okS (K + 1) m' (upd y 1 0) := okS_sea y1 (Or.inl rfl)
    have hE5 : eqB m' (upd Ny 2 0) O' C' (upd y 1 0) := eqB_num y1 y2 (k := 1) (by decide) 0
    have hE6 : eqB m' (upd (upd Ny 2 0) 1 (y 0 + 1)) O' C' (upd (upd y 1 0) 0 (y 0 + 1)) := eqB_num hok5 hE5 (k := 0) (by decide) _
    have hav6 : ∀ a w, av (upd (upd y 1 0) 0 (y 0 + 1)) a w = av y a w := fun a w => by unfold av; rw [pk_un (by omega), pk_un (by omega)]
    have zz : g_X0_beginNextSeason (upd x2 3 (s2 2 + 1)) x1 bO = some (upd (upd Ny 2 0) 1 (y 0 + 1), C', O') := by
      rw [g_X0_beginNextSeason, nn2, bd_some, h2, if_neg t10, z1, b3_some, en, bd_some, co1, bd_some]
    have v1 : Ny 1 = bN 1 := (ny 0 (by decide) (by decide) (by decide)).trans ((pk_un (by decide)).trans b1)
    have v3 : Ny 3 = bN 3 + 1 := (ny 2 (by decide) (by decide) (by decide)).trans (pk_us.trans (by rw [← n3, b3]))
    refine ⟨old', sav', hN', hO', hC', upd (upd Ny 2 0) 1 (y 0 + 1), O', C', cu, co, st, re, dr, wa, sd, ?_, g2, m', upd (upd y 1 0) 0 (y 0 + 1), okS_low hok5 _ (Or.inl rfl), hE6, ?_, ⟨?_, ?_, ?_, ?_, ?_, ?_⟩, fun a ha => ?_, ⟨u, w, by omega, ?_, ?_⟩, fun h3 => absurd (h2.symm.trans h3) (by decide), fun _ q hq => ⟨op_owner hok hE hok3 hav k8 z2 z3 hq, ?_⟩⟩
    · rw [g_X4_open, g1, b5_some, e1, b7_some, g_X2_carryOut, k1, b3_some, k2, b2_some, co3, bd_some, zz, b3_some]; rfl
    · rw [pk_us, pk_un (show 2 ≠ 1 by decide), pk_us, pk_un (show 3 ≠ 1 by decide), pk_un (show 3 ≠ 2 by decide), ← n1, v1, v3, ← hy, h2]
      exact yr_1 _
    · rw [pk_un (by decide), pk_un (by decide)]; exact (ny 3 (by decide) (by decide) (by decide)).trans ((pk_un (by decide)).trans b4)
    · rw [pk_un (by decide), pk_un (by decide)]; exact (ny 4 (by decide) (by decide) (by decide)).trans ((pk_un (by decide)).trans b5)
    · rw [pk_un (by decide), pk_un (by decide)]; exact (ny 5 (by decide) (by decide) (by decide)).trans ((pk_un (by decide)).trans b6)
    · rw [pk_un (by decide), pk_un (by decide)]; exact (ny 6 (by decide) (by decide) (by decide)).trans ((pk_un (by decide)).trans b7)
    · rw [pk_un (by decide), pk_us, h2]; decide
    · rw [pk_us, ← n1, v1, h2]
    · rw [hav6]
      exact y8 (fun a ha => by rw [z5 a 2, hav a 2]; exact hki a ha) a ha
    · rw [pk_un (by decide), pk_un (by decide), show Ny 8 = y 7 from y2.2.1 7 (by decide), y5, z4 7 (by decide), ← hE3.2.1 7 (by decide), pk_un (by decide), b8]
    · rw [pk_un (by decide), pk_un (by decide), show Ny 9 = y 8 from y2.2.1 8 (by decide), y6, z4 8 (by decide), ← hE3.2.1 8 (by decide), pk_un (by decide), b9]
    · have e : sn m' (upd (upd y 1 0) 0 (y 0 + 1)) q = sn m' y q := num_c (fun c _ => by rw [hav6 c 0])
      rw [e]; exact y7 q hq
end OB
