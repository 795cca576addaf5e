/-! p26: a move that succeeds; an army -/
theorem out0 {n : Nat} {v : Nat → Nat → Int32} {a : Nat} : outS n v a 0 = pfS n v a := rfl
theorem out1 {n : Nat} {v : Nat → Nat → Int32} {a : Nat} : outS n v a 1 = nI (stN n v a) := rfl
theorem out2 {n : Nat} {v : Nat → Nat → Int32} {a : Nat} : outS n v a 2 = wyS n v a := rfl
theorem out3 {n : Nat} {v : Nat → Nat → Int32} {a : Nat} : outS n v a 3 = if drS n v a = -1 then 0 else 1 := rfl
theorem out4 {n : Nat} {v : Nat → Nat → Int32} {a : Nat} : outS n v a 4 = bi (cntQ n v a) := rfl
theorem out5 {n : Nat} {v : Nat → Nat → Int32} {a : Nat} : outS n v a 5 = bi (cutQ n v a) := rfl
theorem m1_neg : (-1 : Int32) < 0 := by decide
section IA
variable {K n : Nat} {bN bO bC s : Nat → Int32} {a : Nat}
theorem su_J2 {x y : Nat} (h : y < x) (hx : x ≤ 10) (f1 f2 f3 f4 f5 f6 f7 : Nat → Int32) : WP (g_L_succeeds_J2 (nI x) (nI y) f1 f2 f3 f4 f5 f6 f7) (fun z => z.1 = 1) := by
  rw [g_L_succeeds_J2, if_neg (nI_ge h (by omega))]; exact wp_ret rfl
theorem su_J1d (hok : okS K n s) (hE : eqB n bN bO bC s) (ha : a < n) {o : Nat} (ho : o < n) (h1 : drv n (av s) o) (h2 : ¬ av s o 0 = av s a 0) (h3 : (if av s o 2 = 1 then 1 else stN n (av s) o) < stN n (av s) a) (f1 f2 f3 f4 f5 f6 f7 : Nat → Int32) :
    WP (g_L_succeeds_J1 1 (nI o) bN bC (nI a) (nI (stN n (av s) a)) 0 f1 f2 f3 f4 f5 f6 f7) (fun z => z.1 = 1) := by
  have hn := hok.1
  have hs := st_le n (av s) a
  rw [g_L_succeeds_J1, if_neg t10, if_neg (nI_pos (by omega)), if_pos rfl]
  refine wp_ifO hok hE ho (w := 3) (by decide) (fun d1 d2 d3 d4 d5 d6 d7 => ?_)
  rw [nz0_0, out3, if_neg h1, if_pos rfl, sp_a0 hok hE ho, b2_some, nz0_0, sp_a0 hok hE ha, b2_some, nz0_0, if_neg h2, sp_a2 hok hE ho, b2_some, nz0_0]
  refine wp_if (fun e => ?_) (fun e => ?_)
  · rw [if_pos e] at h3
    exact su_J2 (y := 1) h3 (by omega) _ _ _ _ _ _ _
  · rw [if_neg e] at h3
    refine wp_ifO hok hE ho (w := 1) (by decide) (fun d1 d2 d3 d4 d5 d6 d7 => ?_)
    rw [nz0_0, out1]
    exact su_J2 h3 (by omega) _ _ _ _ _ _ _
theorem su_J1g {o : Nat} (ho : o < 9) (x y : Int32) (f1 f2 f3 f4 f5 f6 f7 : Nat → Int32) : WP (g_L_succeeds_J1 1 (nI o) bN bC x y 1 f1 f2 f3 f4 f5 f6 f7) (fun z => z.1 = 1) := by
  rw [g_L_succeeds_J1, if_neg t10, if_neg (nI_pos (by omega)), if_neg t10]; exact wp_ret rfl
theorem su_J1n (x y : Int32) (f1 f2 f3 f4 f5 f6 f7 : Nat → Int32) : WP (g_L_succeeds_J1 1 (-1) bN bC x y 0 f1 f2 f3 f4 f5 f6 f7) (fun z => z.1 = 1) := by
  rw [g_L_succeeds_J1, if_neg t10, if_pos m1_neg]; exact wp_ret rfl
theorem su_loop (hok : okS K n s) (hE : eqB n bN bO bC s) (ha : a < n) (hg : goS n (av s) a) {t : Nat} (ht : av s a 3 = nI t) (sv : Int32) (f1 f2 f3 f4 f5 f6 f7 : Nat → Int32) :
    WP (g_L_succeeds_L1 sv bN bC (nI a) (nI t) (nI (stN n (av s) a)) FU 1 0 f1 f2 f3 f4 f5 f6 f7) (fun z => z.1 = 1) := by
  have hn := hok.1
  have hs := st_le n (av s) a
  refine wp_loop (fun nf i (x : Int32 × (Nat → Int32) × (Nat → Int32) × (Nat → Int32) × (Nat → Int32) × (Nat → Int32) × (Nat → Int32) × (Nat → Int32)) => g_L_succeeds_L1 sv bN bC (nI a) (nI t) (nI (stN n (av s) a)) nf x.1 (nI i) x.2.1 x.2.2.1 x.2.2.2.1 x.2.2.2.2.1 x.2.2.2.2.2.1 x.2.2.2.2.2.2.1 x.2.2.2.2.2.2.2) n (fun _ x => x.1 = 1) (fun z => z.1 = 1) (by omega) (1, f1, f2, f3, f4, f5, f6, f7) rfl (fun nf i x hi hI K' => ?_) (fun nf x hI => ?_)
  · obtain ⟨b, q1, q2, q3, q4, q5, q6, q7⟩ := x
    replace hI : b = 1 := hI
    subst hI
    have K1 : ∀ q1 q2 q3 q4 q5 q6 q7, WP (g_L_succeeds_L1 sv bN bC (nI a) (nI t) (nI (stN n (av s) a)) nf 1 (nI (i + 1)) q1 q2 q3 q4 q5 q6 q7) (fun z => z.1 = 1) := fun q1 q2 q3 q4 q5 q6 q7 => K' (1, q1, q2, q3, q4, q5, q6, q7) rfl
    show WP (g_L_succeeds_L1 sv bN bC (nI a) (nI t) (nI (stN n (av s) a)) (nf + 1) 1 (nI i) q1 q2 q3 q4 q5 q6 q7) _
    rw [g_L_succeeds_L1, sp_c0, b2_some, nz0_0, hok.n0 hE, go_on hn hi, if_neg t10]
    by_cases e : i = a
    · rw [if_pos (by rw [e]), nI_1]; exact K1 _ _ _ _ _ _ _
    · rw [if_neg (fun q => e ((nI_eq (by omega) (by omega)).mp q)), sp_a2 hok hE hi, b2_some, nz0_0]
      refine wp_if (fun e2 => ?_) (fun e2 => ?_)
      · rw [sp_a3 hok hE hi, b2_some, nz0_0]
        refine wp_if (fun e3 => ?_) (fun e3 => ?_)
        · obtain ⟨h1, h2⟩ := go_rival hn hok.d ha hg hi e e2 (e3.trans ht.symm)
          refine wp_ifO hok hE hi (w := 1) (by decide) (fun d1 d2 d3 d4 d5 d6 d7 => ?_)
          rw [nz0_0, out1, if_neg (nI_ge h1 (by omega))]
          refine wp_ifO hok hE hi (w := 2) (by decide) (fun d1 d2 d3 d4 d5 d6 d7 => ?_)
          rw [nz0_0, out2, if_pos h2, nI_1]
          exact K1 _ _ _ _ _ _ _
        · rw [nI_1]; exact K1 _ _ _ _ _ _ _
      · rw [nI_1]; exact K1 _ _ _ _ _ _ _
  · obtain ⟨b, q1, q2, q3, q4, q5, q6, q7⟩ := x
    replace hI : b = 1 := hI
    subst hI
    show WP (g_L_succeeds_L1 sv bN bC (nI a) (nI t) (nI (stN n (av s) a)) (nf + 1) 1 (nI n) q1 q2 q3 q4 q5 q6 q7) _
    rw [g_L_succeeds_L1, sp_c0, b2_some, nz0_0, hok.n0 hE, go_out hn]
    exact wp_ret rfl
theorem wp_succ (hok : okS K n s) (hE : eqB n bN bO bC s) (ha : a < n) (hg : goS n (av s) a) {t : Nat} (ht12 : t < 12) (ht : av s a 3 = nI t) (sv : Int32) (c1 c2 c3 c4 c5 c6 c7 : Nat → Int32) :
    WP (g_L_succeeds bN bC c1 c2 c3 c4 c5 c6 c7 sv bO (nI a) (nI t)) (fun z => z.1 = 1) := by
  have hn := hok.1
  rw [g_L_succeeds]
  refine wp_ifO hok hE ha (w := 1) (by decide) (fun d1 d2 d3 d4 d5 d6 d7 => ?_)
  rw [nz0_0, out1]
  refine wp_b8 (su_loop hok hE ha hg ht sv _ _ _ _ _ _ _) (fun v43 q1 q2 q3 q4 q5 q6 q7 e => ?_)
  replace e : v43 = 1 := e
  subst e
  rw [sp_f0 hok hE ht12, b2_some, nz0_0]
  rcases on_cases hn hok.d (nI t) with ⟨o, ho, eo, hf⟩ | ⟨eo, hf⟩
  · rw [hf, if_neg (nI_pos (by omega)), sp_a2 hok hE ho, b2_some, nz0_0]
    rcases go_there hn hok.d ha hg ho (eo.trans ht.symm) with hgo | ⟨h1, h2, h3⟩
    · rw [if_pos hgo.1]
      refine wp_ifO hok hE ho (w := 2) (by decide) (fun d1 d2 d3 d4 d5 d6 d7 => ?_)
      rw [nz0_0, out2, if_pos ((wyS_0 hn hok.d).mpr hgo.2)]
      exact su_J1g (by omega) _ _ _ _ _ _ _ _ _
    · refine wp_if (fun e2 => ?_) (fun e2 => su_J1d hok hE ha ho h1 h2 h3 _ _ _ _ _ _ _)
      refine wp_ifO hok hE ho (w := 2) (by decide) (fun d1 d2 d3 d4 d5 d6 d7 => ?_)
      rw [nz0_0, out2]
      exact wp_if (fun _ => su_J1g (by omega) _ _ _ _ _ _ _ _ _) (fun _ => su_J1d hok hE ha ho h1 h2 h3 _ _ _ _ _ _ _)
  · rw [hf, if_pos m1_neg]
    exact su_J1n _ _ _ _ _ _ _ _ _
theorem ia_loop (hok : okS K n s) (hE : eqB n bN bO bC s) (ha : a < n) (f1 f2 f3 f4 f5 f6 f7 : Nat → Int32) :
    WP (g_L_isArmy_L1 (nI a) bN bC (av s a 1) (pfS n (av s) a) FU 1 0 f1 f2 f3 f4 f5 f6 f7) (fun z => z.1 = 1) := by
  have hn := hok.1
  refine wp_loop (fun nf i (x : Int32 × (Nat → Int32) × (Nat → Int32) × (Nat → Int32) × (Nat → Int32) × (Nat → Int32) × (Nat → Int32) × (Nat → Int32)) => g_L_isArmy_L1 (nI a) bN bC (av s a 1) (pfS n (av s) a) nf x.1 (nI i) x.2.1 x.2.2.1 x.2.2.2.1 x.2.2.2.2.1 x.2.2.2.2.2.1 x.2.2.2.2.2.2.1 x.2.2.2.2.2.2.2) a (fun _ x => x.1 = 1) (fun z => z.1 = 1) (by omega) (1, f1, f2, f3, f4, f5, f6, f7) rfl (fun nf i x hi hI K' => ?_) (fun nf x hI => ?_)
  · obtain ⟨b, q1, q2, q3, q4, q5, q6, q7⟩ := x
    replace hI : b = 1 := hI
    subst hI
    have K1 : ∀ q1 q2 q3 q4 q5 q6 q7, WP (g_L_isArmy_L1 (nI a) bN bC (av s a 1) (pfS n (av s) a) nf 1 (nI (i + 1)) q1 q2 q3 q4 q5 q6 q7) (fun z => z.1 = 1) := fun q1 q2 q3 q4 q5 q6 q7 => K' (1, q1, q2, q3, q4, q5, q6, q7) rfl
    show WP (g_L_isArmy_L1 (nI a) bN bC (av s a 1) (pfS n (av s) a) (nf + 1) 1 (nI i) q1 q2 q3 q4 q5 q6 q7) _
    have hin : i < n := by omega
    rw [g_L_isArmy_L1, if_neg (nI_ge hi (by omega)), if_neg t10, sp_a1 hok hE hin, b2_some, nz0_0, if_neg (fun q => by have := hok.d i a hin ha q; omega)]
    refine wp_if (fun e => ?_) (fun e => ?_)
    · rw [nI_1]; exact K1 _ _ _ _ _ _ _
    · refine wp_ifO hok hE hin (w := 0) (by decide) (fun d1 d2 d3 d4 d5 d6 d7 => ?_)
      rw [nz0_0, out0, if_neg (fun q => e (by rw [← q, hok.pf.2 i a hin ha (by omega) q]; exact m1_neg)), nI_1]
      exact K1 _ _ _ _ _ _ _
  · obtain ⟨b, q1, q2, q3, q4, q5, q6, q7⟩ := x
    replace hI : b = 1 := hI
    subst hI
    show WP (g_L_isArmy_L1 (nI a) bN bC (av s a 1) (pfS n (av s) a) (nf + 1) 1 (nI a) q1 q2 q3 q4 q5 q6 q7) _
    rw [g_L_isArmy_L1, if_pos (nI_le (Nat.le_refl _) (by omega))]
    exact wp_ret rfl
theorem ia_J4 (hok : okS K n s) (hE : eqB n bN bO bC s) (ha : a < n) (sv : Int32) (f1 f2 f3 f4 f5 f6 f7 e1 e2 e3 e4 e5 e6 e7 : Nat → Int32) :
    WP (g_L_isArmy_J4 (nI a) bN bC (av s a 1) (pfS n (av s) a) f1 f2 f3 f4 f5 f6 f7 (wyS n (av s) a) (av s a 2) sv bO (av s a 3) 1 e1 e2 e3 e4 e5 e6 e7) (fun z => z.1 = 1) := by
  have hn := hok.1
  rw [g_L_isArmy_J4]
  refine wp_b8 (ia_loop hok hE ha _ _ _ _ _ _ _) (fun v q1 q2 q3 q4 q5 q6 q7 e => ?_)
  replace e : v = 1 := e
  subst e
  rw [if_neg t10]
  refine wp_if (fun h1 => ?_) (fun _ => wp_ret rfl)
  refine wp_if (fun h2 => ?_) (fun _ => wp_ret rfl)
  obtain ⟨t, t1, t2⟩ := hok.hT a ha h2
  rw [t2]
  refine wp_b8 (wp_succ hok hE ha ⟨h2, (wyS_0 hn hok.d).mp h1⟩ t1 t2 sv _ _ _ _ _ _ _) (fun v q1 q2 q3 q4 q5 q6 q7 e => ?_)
  replace e : v = 1 := e
  subst e
  rw [if_neg t10]
  exact wp_ret rfl
theorem fld4 (hok : okS K n s) (ha : a < n) (bN bC bO : Nat → Int32) : g_X4_field bN bC bO (av s a 1) 4 = some (0, nm (av s a 1)) := by
  obtain ⟨F, hF, e⟩ := hok.hF a ha
  rw [e]; exact sp_f4 bN bC bO hF
theorem nb_bit (hok : okS K n s) (ha : a < n) {t : Nat} (ht : t < 12) (h : ¬ nb (av s a 1) (nI t) = 0) : (nm (av s a 1) >>> (nI t &&& 31)) &&& 1 = 1 := by
  obtain ⟨F, hF, e⟩ := hok.hF a ha
  rw [e] at h ⊢; exact nm_adj hF ht h
theorem ia_J5 (hok : okS K n s) (hE : eqB n bN bO bC s) (ha : a < n) (hg : ¬ goS n (av s) a) (sv : Int32) (f1 f2 f3 f4 f5 f6 f7 e1 e2 e3 e4 e5 e6 e7 : Nat → Int32) :
    WP (g_L_isArmy_J5 bN bC f1 f2 f3 f4 f5 f6 f7 (nI a) (pfS n (av s) a) (av s a 1) e1 e2 e3 e4 e5 e6 e7 (wyS n (av s) a) (av s a 2) sv bO (av s a 3)) (fun z => z.1 = 1) := by
  have hn := hok.1
  rw [g_L_isArmy_J5]
  refine wp_ifO hok hE ha (w := 3) (by decide) (fun d1 d2 d3 d4 d5 d6 d7 => ?_)
  rw [nz0_0, out3]
  by_cases e : drS n (av s) a = -1
  · rw [if_pos e, if_pos rfl, if_pos (pf_stay hn hg (fun q => q e))]
    exact ia_J4 hok hE ha sv _ _ _ _ _ _ _ _ _ _ _ _ _ _
  · rw [if_neg e, if_neg t10]
    refine wp_if (fun _ => ia_J4 hok hE ha sv _ _ _ _ _ _ _ _ _ _ _ _ _ _) (fun h0 => ?_)
    rcases pf_drv hn ha (show drv n (av s) a from e) with q | ⟨f, hf, q1, q2⟩
    · exact absurd (by rw [q]; exact m1_neg) h0
    · rw [fld4 hok ha, b2_some, nz0_0, if_pos (by rw [q1]; exact nb_bit hok ha hf q2)]
      exact ia_J4 hok hE ha sv _ _ _ _ _ _ _ _ _ _ _ _ _ _
theorem ia_J3 (hok : okS K n s) (hE : eqB n bN bO bC s) (ha : a < n) (sv : Int32) (f1 f2 f3 f4 f5 f6 f7 e1 e2 e3 e4 e5 e6 e7 : Nat → Int32) :
    WP (g_L_isArmy_J3 (nI a) bN bC (av s a 1) (pfS n (av s) a) (wyS n (av s) a) (av s a 2) sv bO (av s a 3) f1 f2 f3 f4 f5 f6 f7 1 e1 e2 e3 e4 e5 e6 e7) (fun z => z.1 = 1) := by
  have hn := hok.1
  rw [g_L_isArmy_J3, if_neg t10]
  by_cases hg : goS n (av s) a
  · rw [if_pos hg.1, if_pos ((wyS_0 hn hok.d).mpr hg.2), if_pos (pf_go hn hg)]
    refine wp_ifO hok hE ha (w := 3) (by decide) (fun d1 d2 d3 d4 d5 d6 d7 => ?_)
    rw [nz0_0, out3, if_pos (Classical.byContradiction (go_notdrv hg)), if_pos rfl]
    exact ia_J4 hok hE ha sv _ _ _ _ _ _ _ _ _ _ _ _ _ _
  · refine wp_if (fun h1 => ?_) (fun _ => ia_J5 hok hE ha hg sv _ _ _ _ _ _ _ _ _ _ _ _ _ _)
    refine wp_if (fun h2 => absurd ⟨h1, (wyS_0 hn hok.d).mp h2⟩ hg) (fun _ => ia_J5 hok hE ha hg sv _ _ _ _ _ _ _ _ _ _ _ _ _ _)
theorem bt_m1 : ∀ i, i < 32 → bt (-1) i = true := by decide +kernel
theorem mask0 (hok : okS K n s) (ha : a < n) {r : Int32} (hr : ∀ f, f < 32 → (bt r f = true ↔ f < 12 ∧ rchP n (av s) a f)) : r &&& (nm (av s a 1) ^^^ (-1)) = 0 := by
  obtain ⟨F, hF, e⟩ := hok.hF a ha
  apply b_ext
  intro i hi
  rw [b_and, b_xor, bt_m1 i hi, b_0]
  by_cases q : bt r i = true
  · obtain ⟨q1, q2⟩ := (hr i hi).mp q
    have q3 := q2.1
    rw [e] at q3 ⊢
    rw [(nm_adj_all F hF i q1).mpr q3]
    cases bt r i <;> rfl
  · rw [Bool.eq_false_iff.mpr q]; rfl
theorem ia_J6 (hok : okS K n s) (hE : eqB n bN bO bC s) (ha : a < n) (sv : Int32) (f1 f2 f3 f4 f5 f6 f7 e1 e2 e3 e4 e5 e6 e7 : Nat → Int32) :
    WP (g_L_isArmy_J6 bN bO bC (nI a) (av s a 1) (pfS n (av s) a) (wyS n (av s) a) (av s a 2) sv (av s a 3) f1 f2 f3 f4 f5 f6 f7 e1 e2 e3 e4 e5 e6 e7) (fun z => z.1 = 1) := by
  rw [g_L_isArmy_J6]
  refine wp_reach hok hE ha (fun r d1 d2 d3 d4 d5 d6 d7 hr => ?_)
  rw [nz0_0, fld4 hok ha, b2_some, nz0_0, if_pos (mask0 hok ha hr)]
  exact ia_J3 hok hE ha sv _ _ _ _ _ _ _ _ _ _ _ _ _ _
theorem ia_J2 (hok : okS K n s) (hE : eqB n bN bO bC s) (ha : a < n) (sv : Int32) (f1 f2 f3 f4 f5 f6 f7 e1 e2 e3 e4 e5 e6 e7 : Nat → Int32) :
    WP (g_L_isArmy_J2 (nI a) bN bC (av s a 1) (pfS n (av s) a) (wyS n (av s) a) (av s a 2) sv bO (av s a 3) e1 e2 e3 e4 e5 e6 e7 1 f1 f2 f3 f4 f5 f6 f7) (fun z => z.1 = 1) := by
  have hn := hok.1
  rw [g_L_isArmy_J2, if_neg t10]
  refine wp_if (fun h1 => ?_) (fun _ => ia_J6 hok hE ha sv _ _ _ _ _ _ _ _ _ _ _ _ _ _)
  refine wp_reach hok hE ha (fun r d1 d2 d3 d4 d5 d6 d7 hr => ?_)
  rw [nz0_0]
  obtain ⟨_, F, hF, eF, hk⟩ := hok.arm ha
  obtain ⟨⟨t, t1, t2, t3⟩, h4⟩ : (∃ t, t < 12 ∧ av s a 3 = nI t ∧ adjN F t) ∧ av s a 4 = -1 := by
    rcases hk with ⟨q, _⟩ | ⟨_, q⟩ | ⟨q, _⟩
    · rw [q] at h1; exact absurd h1 (by decide)
    · exact q
    · rw [q] at h1; exact absurd h1 (by decide)
  have hnb : ¬ nb (av s a 1) (nI t) = 0 := by rw [eF]; exact (nb_adj hF t1).mpr t3
  have hself : ordv (av s) a (nI t) = av s := by rw [← t2]; exact ordv_self h1 h4
  have hbit : (r >>> (av s a 3 &&& 31)) &&& 1 = if bt r t = true then 1 else 0 := by rw [t2]; exact bit_at r (by omega)
  have hb : bt r t = true ↔ ¬ Fx n (av s) a := by
    rw [hr t (by omega)]
    unfold rchP
    rw [hself]
    exact ⟨fun q => q.2.2, fun q => ⟨t1, hnb, q⟩⟩
  by_cases hf : Fx n (av s) a
  · rw [if_neg (fun q => (wyS_0 hn hok.d).mp q hf), g_L_isArmy_J7, if_pos (by rw [hbit, if_neg (fun q => hb.mp q hf)])]
    exact ia_J6 hok hE ha sv _ _ _ _ _ _ _ _ _ _ _ _ _ _
  · rw [if_pos ((wyS_0 hn hok.d).mpr hf), g_L_isArmy_J7, if_pos (by rw [hbit, if_pos (hb.mpr hf)])]
    exact ia_J6 hok hE ha sv _ _ _ _ _ _ _ _ _ _ _ _ _ _
theorem bi_two {P Q : Prop} (h : ¬ (P ∧ Q)) : ¬ (2 : Int32) ≤ bi P + bi Q := by
  by_cases p : P
  · rw [bi_t p, bi_f (fun q => h ⟨p, q⟩)]; decide
  · rw [bi_f p]
    rcases bi_01 Q with q | q <;> rw [q] <;> decide
theorem ia_J9 (hok : okS K n s) (hE : eqB n bN bO bC s) (ha : a < n) (sv : Int32) (f1 f2 f3 f4 f5 f6 f7 e1 e2 e3 e4 e5 e6 e7 : Nat → Int32) :
    WP (g_L_isArmy_J9 bN bC (nI a) (av s a 1) (pfS n (av s) a) (wyS n (av s) a) (av s a 2) sv bO (av s a 3) e1 e2 e3 e4 e5 e6 e7 f1 f2 f3 f4 f5 f6 f7) (fun z => z.1 = 1) := by
  rw [g_L_isArmy_J9]
  refine wp_ifO hok hE ha (w := 4) (by decide) (fun d1 d2 d3 d4 d5 d6 d7 => ?_)
  rw [nz0_0]
  refine wp_ifO hok hE ha (w := 5) (by decide) (fun d1 d2 d3 d4 d5 d6 d7 => ?_)
  rw [nz0_0, out4, out5, if_neg (bi_two (fun q => cnt_cut q.1 q.2))]
  exact ia_J2 hok hE ha sv _ _ _ _ _ _ _ _ _ _ _ _ _ _
theorem ia_J8 (hok : okS K n s) (hE : eqB n bN bO bC s) (ha : a < n) (sv : Int32) (f1 f2 f3 f4 f5 f6 f7 e1 e2 e3 e4 e5 e6 e7 : Nat → Int32) :
    WP (g_L_isArmy_J8 (av s a 2) bN bC (nI a) (av s a 1) (pfS n (av s) a) (wyS n (av s) a) sv bO (av s a 3) e1 e2 e3 e4 e5 e6 e7 f1 f2 f3 f4 f5 f6 f7) (fun z => z.1 = 1) := by
  rw [g_L_isArmy_J8]
  refine wp_if (fun _ => ia_J9 hok hE ha sv _ _ _ _ _ _ _ _ _ _ _ _ _ _) (fun h2 => ?_)
  refine wp_ifO hok hE ha (w := 4) (by decide) (fun d1 d2 d3 d4 d5 d6 d7 => ?_)
  rw [nz0_0]
  refine wp_ifO hok hE ha (w := 5) (by decide) (fun d1 d2 d3 d4 d5 d6 d7 => ?_)
  rw [nz0_0, out4, out5, bi_f (fun q => h2 q.1), bi_f (fun q => h2 q.1), if_pos (by decide)]
  exact ia_J9 hok hE ha sv _ _ _ _ _ _ _ _ _ _ _ _ _ _
theorem ia_J1 (hok : okS K n s) (hE : eqB n bN bO bC s) (ha : a < n) (sv : Int32) (f1 f2 f3 f4 f5 f6 f7 e1 e2 e3 e4 e5 e6 e7 : Nat → Int32) :
    WP (g_L_isArmy_J1 (nI a) bN bC (av s a 1) (pfS n (av s) a) (wyS n (av s) a) (av s a 2) sv bO (av s a 3) e1 e2 e3 e4 e5 e6 e7 f1 f2 f3 f4 f5 f6 f7 1) (fun z => z.1 = 1) := by
  rw [g_L_isArmy_J1, if_neg t10]
  refine wp_if (fun _ => ia_J8 hok hE ha sv _ _ _ _ _ _ _ _ _ _ _ _ _ _) (fun h1 => ?_)
  rw [if_pos (wy_other h1)]
  exact ia_J8 hok hE ha sv _ _ _ _ _ _ _ _ _ _ _ _ _ _
theorem wp_isArmy (hok : okS K n s) (hE : eqB n bN bO bC s) (ha : a < n) (sv : Int32) (f1 f2 f3 f4 f5 f6 f7 e1 e2 e3 e4 e5 e6 e7 : Nat → Int32) :
    WP (g_L_isArmy bN bC f1 f2 f3 f4 f5 f6 f7 bO e1 e2 e3 e4 e5 e6 e7 sv (nI a)) (fun z => z.1 = 1) := by
  have hn := hok.1
  rw [g_L_isArmy, sp_a2 hok hE ha, b2_some, nz0_0, sp_a1 hok hE ha, b2_some, nz0_0, sp_a3 hok hE ha, b2_some, nz0_0]
  refine wp_ifO hok hE ha (w := 2) (by decide) (fun d1 d2 d3 d4 d5 d6 d7 => ?_)
  rw [nz0_0, out2]
  refine wp_ifO hok hE ha (w := 0) (by decide) (fun d1 d2 d3 d4 d5 d6 d7 => ?_)
  rw [nz0_0, out0]
  have hf0 : g_X4_field bN bC bO (av s a 1) 0 = some (0, nI a) := by
    obtain ⟨F, hF, e⟩ := hok.hF a ha
    have := f_on hok ha
    rw [e] at this ⊢
    rw [sp_f0 hok hE hF, this]
  rw [hf0, b2_some, nz0_0, if_pos rfl]
  obtain ⟨_, F, hF, eF, hk⟩ := hok.arm ha
  rcases hk with ⟨h2, h3, h4⟩ | ⟨h2, ⟨t, t1, h3, t3⟩, h4⟩ | ⟨h2, ⟨t, t1, h3, t3⟩, g, g1, h4⟩
  · rw [if_pos h2, g_L_isArmy_J10, if_pos h3, g_L_isArmy_J11, if_pos rfl, if_neg (by rw [h2]; decide), g_L_isArmy_J12, sp_a4 hok hE ha, b2_some, nz0_0, if_pos (by rw [h4]; exact m1_neg), g_L_isArmy_J13, if_pos rfl, if_pos (by rw [h3]; exact m1_neg)]
    exact ia_J1 hok hE ha sv _ _ _ _ _ _ _ _ _ _ _ _ _ _
  · have hnb : ¬ nb (av s a 1) (nI t) = 0 := by rw [eF]; exact (nb_adj hF t1).mpr t3
    rw [if_neg (by rw [h2]; decide), g_L_isArmy_J10, if_neg (by rw [h3]; exact nI_m1 (by omega)), g_L_isArmy_J11, if_pos rfl, if_neg (by rw [h2]; decide), g_L_isArmy_J12, sp_a4 hok hE ha, b2_some, nz0_0, if_pos (by rw [h4]; exact m1_neg), g_L_isArmy_J13, if_pos rfl, if_neg (by rw [h3]; exact nI_pos (by omega)), fld4 hok ha, b2_some, nz0_0, if_pos (by rw [h3]; exact nb_bit hok ha t1 hnb)]
    exact ia_J1 hok hE ha sv _ _ _ _ _ _ _ _ _ _ _ _ _ _
  · have hnb : ¬ nb (av s a 1) (nI t) = 0 := by rw [eF]; exact (nb_adj hF t1).mpr t3
    rw [if_neg (by rw [h2]; decide), g_L_isArmy_J10, if_neg (by rw [h3]; exact nI_m1 (by omega)), g_L_isArmy_J11, if_pos rfl, if_pos h2, g_L_isArmy_J12, sp_a4 hok hE ha, b2_some, nz0_0, if_neg (by rw [h4]; exact nI_pos (by omega)), g_L_isArmy_J13, if_pos rfl, if_neg (by rw [h3]; exact nI_pos (by omega)), fld4 hok ha, b2_some, nz0_0, if_pos (by rw [h3]; exact nb_bit hok ha t1 hnb)]
    exact ia_J1 hok hE ha sv _ _ _ _ _ _ _ _ _ _ _ _ _ _
end IA
