/-! p26: the law's own loop -/
section LA
variable {i : Nat} {bN bO bC : (Nat → Int32)} {old sav : Int32} {hN hO hC : (Nat → Nat → Int32)}
theorem x4_keepE (has : Int32) (bN bO bC sN sO sC : (Nat → Int32)) : g_X4_keep has bN sN bO sO bC sC = some (bN 0, 1, va_cpy bN sN 0 0 10, va_cpy bO sO 0 0 12, va_cpy bC sC 0 0 63) := by
  rw [g_X4_keep, g_X0_copyFrom, b3_some, show g_X0_number bN 0 = some (bN 0) from x0_number (k := 0) (by decide), bd_some]
theorem x4_restoreE (hB : JB i bN bO bC) (hH : JH i old sav hN hO hC) (sN sO sC : (Nat → Int32)) : ∃ o m hN' hO' hC' N' O' C', o < 6 ∧ m < 6 ∧ g_X4_restore 1 old sav hN hO hC bN bO bC sN sO sC = some (0, sN 0, nI o, nI (m + 1), hN', hO', hC', N', O', C') ∧ JH i (nI o) (nI (m + 1)) hN' hO' hC' ∧ N' 3 = sN 3 ∧ (∀ j, j < 10 → hN' ((o + m) % 6) j = bN j) ∧ (∀ j, j < 12 → hO' ((o + m) % 6) j = bO j) ∧ ∀ j, j < 63 → hC' ((o + m) % 6) j = bC j := by
  obtain ⟨o, m, hN', hO', hC', h1, h2, h3, h4, h5, h6, h7⟩ := JH_save hH hB
  refine ⟨o, m, hN', hO', hC', va_cpy sN bN 0 0 10, va_cpy sO bO 0 0 12, va_cpy sC bC 0 0 63, h1, h2, ?_, h4, cp0 (by decide), h5, h6, h7⟩
  rw [g_X4_restore, if_neg t10, h3, b5_some, g_X0_copyFrom, b3_some, show g_X0_number (va_cpy sN bN 0 0 10) 0 = some (sN 0) from (x0_number (k := 0) (by decide)).trans (by rw [cp0 (by decide)]), bd_some]
theorem x4_undoE {o m : Nat} (ho : o < 6) (hm : m < 6) (hN hO hC : (Nat → Nat → Int32)) (bN bO bC : (Nat → Int32)) : g_X4_undo (nI o) (nI (m + 1)) hN hO hC bN bO bC = some (0, nI m, nI m, va_cpy (hN ((o + m) % 6)) bN 0 0 10, va_cpy (hO ((o + m) % 6)) bO 0 0 12, va_cpy (hC ((o + m) % 6)) bC 0 0 63) := by
  rw [g_X4_undo, g_X1_size, bd_some, if_neg (nI_ne0 (by omega) (by omega)), x1_take ho hm, b4_some, g_X1_size, bd_some]
theorem JH_less {o m : Nat} (ho : o < 6) (hm : m < 6) (h : JH i (nI o) (nI (m + 1)) hN hO hC) : JH i (nI o) (nI m) hN hO hC := by
  obtain ⟨o', m', a1, a2, e1, e2, hk⟩ := h
  have q1 : o = o' := (nI_eq (by omega) (by omega)).mp e1
  have q2 : m + 1 = m' := (nI_eq (by omega) (by omega)).mp e2
  subst q1; subst q2
  exact ⟨o, m, ho, by omega, rfl, rfl, fun k hk' => hk k (by omega)⟩
theorem la_J3 {P : (Int32 × (Nat → Int32) × (Nat → Int32) × (Nat → Int32) × Int32 × (Nat → Nat → Int32) × (Nat → Nat → Int32) × (Nat → Nat → Int32) × Int32 × Int32 × (Nat → Int32) × (Nat → Int32) × (Nat → Int32) × (Nat → Int32) × (Nat → Int32) × (Nat → Int32) × (Nat → Int32) × (Nat → Int32) × (Nat → Int32) × (Nat → Int32) × (Nat → Int32) × (Nat → Int32) × (Nat → Int32) × (Nat → Int32) × (Nat → Int32) × (Nat → Int32) × (Nat → Int32)) → Prop} {bk} {sN sO sC : (Nat → Int32)} (hB : JB (i + 1) bN bO bC) (hH : JH (i + 1) old sav hN hO hC) (x1 x2 x3 x4 x5 x6 x7 : (Nat → Int32)) (y1 y2 y3 y4 y5 y6 y7 : (Nat → Int32))
    (hk : ∀ N' O' C' old' sav' hN' hO' hC' x1 x2 x3 x4 x5 x6 x7 w1 w2 w3 y1 y2 y3 y4 y5 y6 y7, JB (i + 1) N' O' C' → JH (i + 1) old' sav' hN' hO' hC' → WP (bk 1 (nI i + 1) C' N' O' 1 hC' hN' hO' old' sav' x1 x2 x3 x4 x5 x6 x7 w1 w2 w3 y1 y2 y3 y4 y5 y6 y7) P) :
    WP (g_L_law_J3 (nI i) 1 sC sN sO (sN 0) (sN 3) bk 1 old sav bN bC x1 x2 x3 x4 x5 x6 x7 bO y1 y2 y3 y4 y5 y6 y7 hC hN hO) P := by
  rw [g_L_law_J3, if_neg t10]
  refine wp_if (fun _ => ?_) (fun _ => hk _ _ _ _ _ _ _ _ _ _ _ _ _ _ _ _ _ _ _ _ _ _ _ _ _ hB hH)
  obtain ⟨o, m, hN', hO', hC', N', O', C', h1, h2, h3, h4, h5, h6, h7, h8⟩ := x4_restoreE hB hH sN sO sC
  have hu : va_cpy (hN' ((o + m) % 6)) N' 0 0 10 0 = bN 0 := (cp0 (by decide)).trans (h6 0 (by decide))
  rw [sp_c0, b2_some, nz0_0, h3, b10_some, nz0_0, if_pos rfl, sp_c3, b2_some, nz0_0, if_pos h5, x4_undoE h1 h2, b6_some, nz0_0, if_neg (nI_pos (by omega)), sp_c0, b2_some, nz0_0, if_pos hu]
  exact hk _ _ _ _ _ _ _ _ _ _ _ _ _ _ _ _ _ _ _ _ _ _ _ _ _ (JB_c hB (fun j hj => (cp0 hj).trans (h6 j hj)) (fun j hj => (cp0 hj).trans (h7 j hj)) (fun j hj => (cp0 hj).trans (h8 j hj))) (JH_less h1 h2 h4)
theorem la_loop {T n : Nat} (hT : T ≤ 36) (hn : n < 2 ^ 31) (V : (Nat → Int32)) : ∀ d i nf, i + d = T → d < nf → ∀ (bC bN bO : (Nat → Int32)) (has : Int32) (hC hN hO : (Nat → Nat → Int32)) (old sav : Int32) (x1 x2 x3 x4 x5 x6 x7 w1 w2 w3 y1 y2 y3 y4 y5 y6 y7 : (Nat → Int32)), JB i bN bO bC → JH i old sav hN hO hC → WP (g_L_law_L1 (nI T) n V nf 1 (nI i) bC bN bO has hC hN hO old sav x1 x2 x3 x4 x5 x6 x7 w1 w2 w3 y1 y2 y3 y4 y5 y6 y7) (fun z => z.1 = 1) := by
  intro d
  induction d with
  | zero =>
    intro i nf h hf bC bN bO has hC hN hO old sav x1 x2 x3 x4 x5 x6 x7 w1 w2 w3 y1 y2 y3 y4 y5 y6 y7 hB hH
    obtain ⟨nf, rfl⟩ : ∃ k, nf = k + 1 := ⟨nf - 1, by omega⟩
    rw [g_L_law_L1, if_pos (nI_le (show T ≤ i by omega) (by omega))]
    exact wp_ret rfl
  | succ d ih =>
    intro i nf h hf bC bN bO has hC hN hO old sav x1 x2 x3 x4 x5 x6 x7 w1 w2 w3 y1 y2 y3 y4 y5 y6 y7 hB hH
    obtain ⟨nf, rfl⟩ : ∃ k, nf = k + 1 := ⟨nf - 1, by omega⟩
    obtain ⟨q, s, hok, hE, hy⟩ := hB
    have e2 : (2 : Int32) * nI i = nI (2 * i) := pk_mul 2 i
    obtain ⟨z1, ez1⟩ := cell_n n V hn (2 * i) (by omega)
    obtain ⟨z2, ez2⟩ := cell_n n V hn (2 * i + 1) (by omega)
    rw [g_L_law_L1, if_neg (nI_ge (show i < T by omega) (by omega)), if_neg t10, sp_c0, b2_some, nz0_0, sp_c3, b2_some, nz0_0, x4_keepE, b5_some, if_pos rfl, e2, ez1, bd_some, nI_1, ez2, bd_some]
    refine wp_b16 (wp_change hok hE hy hH z1 z2 _ _ _ _ _ _ _) (fun v74 old' sav' N' C' hN' hO' hC' O' d1 d2 d3 d4 d5 d6 d7 hP => ?_)
    obtain ⟨p1, p2, p3⟩ := hP
    replace p1 : v74 = 1 := p1
    replace p2 : JB (i + 1) N' O' C' := p2
    replace p3 : JH (i + 1) old' sav' hN' hO' hC' := p3
    subst p1
    rw [if_neg t10]
    have p2' := p2
    obtain ⟨q', s', hok', hE', hy'⟩ := p2'
    refine wp_b15 (wp_holds hok' hE' (by omega) hy' _ _ _ _ _ _ _ _ _ _ _ _ _ _ _) (fun v89 f1 f2 f3 f4 f5 f6 f7 f8 f9 f10 f11 f12 f13 f14 h89 => ?_)
    replace h89 : v89 = 1 := h89
    subst h89
    rw [if_neg t10, show bN 0 = va_cpy bN w2 0 0 10 0 from (cp0 (by decide)).symm, show bN 3 = va_cpy bN w2 0 0 10 3 from (cp0 (by decide)).symm]
    refine la_J3 p2 p3 _ _ _ _ _ _ _ _ _ _ _ _ _ _ (fun N1 O1 C1 old1 sav1 hN1 hO1 hC1 x1 x2 x3 x4 x5 x6 x7 w1 w2 w3 y1 y2 y3 y4 y5 y6 y7 k1 k2 => ?_)
    rw [nI_1]
    exact ih (i + 1) nf (by omega) (by omega) _ _ _ _ _ _ _ _ _ _ _ _ _ _ _ _ _ _ _ _ _ _ _ _ _ _ k1 k2
theorem la_J2 {T n : Nat} (hT : T ≤ 36) (hn : n < 2 ^ 31) (V : (Nat → Int32)) (bC bN bO : (Nat → Int32)) (has : Int32) (hC hN hO : (Nat → Nat → Int32)) (old sav : Int32) (x1 x2 x3 x4 x5 x6 x7 w1 w2 w3 y1 y2 y3 y4 y5 y6 y7 : (Nat → Int32)) (hB : JB 0 bN bO bC) (hH : JH 0 old sav hN hO hC) : g_L_law_J2 n V 1 bC bN bO has hC hN hO old sav x1 x2 x3 x4 x5 x6 x7 w1 w2 w3 y1 y2 y3 y4 y5 y6 y7 (nI T) = some 1 := by
  rw [g_L_law_J2, leA, if_pos (show nI T ≤ 36 from nI_le (b := 36) hT (by decide))]
  have h := la_loop hT hn V T 0 FU (by omega) (by show T < 5000; omega) bC bN bO has hC hN hO old sav x1 x2 x3 x4 x5 x6 x7 w1 w2 w3 y1 y2 y3 y4 y5 y6 y7 hB hH
  obtain ⟨a, h1, h2⟩ := h
  have e : g_L_law_L1 (nI T) n V FU 1 0 bC bN bO has hC hN hO old sav x1 x2 x3 x4 x5 x6 x7 w1 w2 w3 y1 y2 y3 y4 y5 y6 y7 = some a := h1
  obtain ⟨a1, a2, a3, a4, a5, a6, a7, a8, a9, a10, a11, a12, a13, a14, a15, a16, a17, a18, a19, a20, a21, a22, a23, a24, a25, a26, a27⟩ := a
  replace h2 : a1 = 1 := h2
  rw [e, h2]; rfl
theorem la_law {n : Nat} (hn : n ≤ 260) (V : (Nat → Int32)) (has : Int32) (bN bC bO : (Nat → Int32)) (hN hO hC : (Nat → Nat → Int32)) (x1 x2 x3 x4 x5 x6 x7 w1 w2 w3 y1 y2 y3 y4 y5 y6 y7 : (Nat → Int32)) (hB : JB 0 bN bO bC) : g_L_law n V has 0 0 bN bC x1 x2 x3 x4 x5 x6 x7 bO y1 y2 y3 y4 y5 y6 y7 w1 w2 w3 hN hO hC = some 1 := by
  have hH : JH 0 0 0 hN hO hC := ⟨0, 0, by decide, by decide, rfl, rfl, fun k h => absurd h (Nat.not_lt_zero k)⟩
  have hB' := hB
  obtain ⟨q, s, hok, hE, hy⟩ := hB'
  obtain ⟨a, e, ha⟩ := wp_holds hok hE (by decide) hy 0 x1 x2 x3 x4 x5 x6 x7 y1 y2 y3 y4 y5 y6 y7
  obtain ⟨a1, a2, a3, a4, a5, a6, a7, a8, a9, a10, a11, a12, a13, a14, a15⟩ := a
  replace ha : a1 = 1 := ha
  subst ha
  rw [g_L_law, e, b15_some, if_neg t10, sp_c12, b2_some, nz0_0, if_pos rfl, g_L_law_J1, show Int32.ofNat n = nI n from rfl, show nI n / 2 = nI (n / 2) from pk_div (d := 2) (by omega) (by decide) (by decide)]
  by_cases h : nI (n / 2) ≤ 36
  · rw [if_pos h]
    exact la_J2 ((nI_leI (b := 36) (by omega) (by decide)).mp h) (by omega) V _ _ _ _ _ _ _ _ _ _ _ _ _ _ _ _ _ _ _ _ _ _ _ _ _ _ hB hH
  · rw [if_neg h]
    exact la_J2 (T := 36) (Nat.le_refl _) (by omega) V _ _ _ _ _ _ _ _ _ _ _ _ _ _ _ _ _ _ _ _ _ _ _ _ _ _ hB hH
end LA
