/-! what opening would bring: ifOpened, danger, canReach -/
/-- two loops, step by step -/
theorem lq2 {σ τ β γ : Type} (L : Nat → Nat → σ → Option β) (M : Nat → Nat → τ → Option γ) (n : Nat) (I : Nat → σ → τ → Prop) (Post : β → γ → Prop)
    (step : ∀ nf nf' i x y, i < n → I i x y → ∃ x' y', I (i + 1) x' y' ∧ L (nf + 1) i x = L nf (i + 1) x' ∧ M (nf' + 1) i y = M nf' (i + 1) y')
    (stop : ∀ nf nf' x y, I n x y → ∃ b c, L (nf + 1) n x = some b ∧ M (nf' + 1) n y = some c ∧ Post b c) : ∀ d nf nf' i x y, i + d = n → d < nf → d < nf' → I i x y → ∃ b c, L nf i x = some b ∧ M nf' i y = some c ∧ Post b c := by
  intro d
  induction d with
  | zero =>
    intro nf nf' i x y h hf hf' hI
    obtain rfl : i = n := by omega
    cases nf with
    | zero => omega
    | succ nf => cases nf' with
      | zero => omega
      | succ nf' => exact stop nf nf' x y hI
  | succ d ih =>
    intro nf nf' i x y h hf hf' hI
    cases nf with
    | zero => omega
    | succ nf => cases nf' with
      | zero => omega
      | succ nf' =>
        obtain ⟨x', y', h1, h2, h3⟩ := step nf nf' i x y (by omega) hI
        rw [h2, h3]
        exact ih nf nf' (i + 1) x' y' (by omega) (by omega) (by omega) h1
theorem lq2F {σ τ β γ : Type} (L : Nat → Nat → σ → Option β) (M : Nat → Nat → τ → Option γ) (n : Nat) (I : Nat → σ → τ → Prop) (Post : β → γ → Prop) (hn : n < 5000) (x0 : σ) (y0 : τ) (h0 : I 0 x0 y0)
    (step : ∀ nf nf' i x y, i < n → I i x y → ∃ x' y', I (i + 1) x' y' ∧ L (nf + 1) i x = L nf (i + 1) x' ∧ M (nf' + 1) i y = M nf' (i + 1) y')
    (stop : ∀ nf nf' x y, I n x y → ∃ b c, L (nf + 1) n x = some b ∧ M (nf' + 1) n y = some c ∧ Post b c) : ∃ b c, L FU 0 x0 = some b ∧ M FU 0 y0 = some c ∧ Post b c :=
  lq2 L M n I Post step stop n FU FU 0 x0 y0 (by omega) hn hn h0
noncomputable def outS (n : Nat) (v : Nat → Nat → Int32) (a j : Nat) : Int32 := if j = 0 then pfS n v a else if j = 1 then nI (stN n v a) else if j = 2 then wyS n v a else if j = 3 then (if drS n v a = -1 then 0 else 1) else if j = 4 then bi (cntQ n v a) else bi (cutQ n v a)
section WB
variable {n : Nat} {v : Nat → Nat → Int32} {bN bO bC s : Nat → Int32} {a : Nat}
theorem x2_outc {cu co st re dr sd : Nat → Int32} {j : Nat} (hn : n ≤ 9) (ha : a < n) (hj : j < 6) (hall : ∀ a, a < n → cu a = bi (cutQ n v a) ∧ co a = bi (cntQ n v a) ∧ st a = nI (stN n v a) ∧ re a = wyS n v a ∧ dr a = drS n v a ∧ sd a = pfS n v a) : g_X2_outcome sd st re dr co cu (nI a) (nI j) = some (outS n v a j) := by
  have h9 : a < 9 := by omega
  obtain ⟨h1, h2, h3, h4, h5, h6⟩ := hall a ha
  rcases (show j = 0 ∨ j = 1 ∨ j = 2 ∨ j = 3 ∨ j = 4 ∨ j = 5 by omega) with rfl | rfl | rfl | rfl | rfl | rfl
  · rw [g_X2_outcome, if_pos (show nI 0 = 0 from rfl), x4_entry h9, bd_some, h6]; rfl
  · rw [g_X2_outcome, if_neg (show ¬ nI 1 = 0 by decide), if_pos (show nI 1 = 1 from rfl), x4_entry h9, bd_some, h3]; rfl
  · rw [g_X2_outcome, if_neg (show ¬ nI 2 = 0 by decide), if_neg (show ¬ nI 2 = 1 by decide), if_pos (show nI 2 = 2 from rfl), x4_entry h9, bd_some, h4]; rfl
  · rw [g_X2_outcome, if_neg (show ¬ nI 3 = 0 by decide), if_neg (show ¬ nI 3 = 1 by decide), if_neg (show ¬ nI 3 = 2 by decide), if_pos (show nI 3 = 3 from rfl), x4_entry h9, bd_some, h5]
    show _ = some (if drS n v a = -1 then 0 else 1)
    by_cases e : drS n v a = -1
    · rw [if_pos e, if_pos e]
    · rw [if_neg e, if_neg e]
  · rw [g_X2_outcome, if_neg (show ¬ nI 4 = 0 by decide), if_neg (show ¬ nI 4 = 1 by decide), if_neg (show ¬ nI 4 = 2 by decide), if_neg (show ¬ nI 4 = 3 by decide), if_pos (show nI 4 = 4 from rfl), x4_entry h9, bd_some, h2]; rfl
  · rw [g_X2_outcome, if_neg (show ¬ nI 5 = 0 by decide), if_neg (show ¬ nI 5 = 1 by decide), if_neg (show ¬ nI 5 = 2 by decide), if_neg (show ¬ nI 5 = 3 by decide), if_neg (show ¬ nI 5 = 4 by decide), x4_entry h9, bd_some, h1]; rfl
theorem x5_opened (h : MB n v s) (hd : dist n v) (ha : a < n) {j : Nat} (hj : j < 6) (q1 q2 q3 q4 q5 q6 q7 q8 : Nat → Int32) : ∃ cu co st fa dr wy dn pl, g_X5_opened s q1 q2 q3 q4 q5 q6 q7 q8 (nI a) (nI j) = some (outS n v a j, cu, co, st, fa, dr, wy, dn, pl) := by
  have hn := h.1
  obtain ⟨cu, co, st, fa, dr, wy, dn, pl, h1, h2⟩ := x5_opening h hd q1 q2 q3 q4 q5 q6 q7 q8
  obtain ⟨g1, g2, g3, g4, g5, g6, g7⟩ := h2 a ha
  have r9 : ∀ {α : Type} {f : Nat → Int32} {k : Int32 → Option α}, rdA f 9 (nI a) k = k (f a) := rdA_n (by omega) (by decide)
  refine ⟨cu, co, st, fa, dr, wy, dn, pl, ?_⟩
  rw [g_X5_opened, h1, b8_some]
  rcases (show j = 0 ∨ j = 1 ∨ j = 2 ∨ j = 3 ∨ j = 4 ∨ j = 5 by omega) with rfl | rfl | rfl | rfl | rfl | rfl
  · rw [if_pos (show nI 0 = 0 from rfl), r9, g7]; rfl
  · rw [if_neg (show ¬ nI 1 = 0 by decide), if_pos (show nI 1 = 1 from rfl), r9, g3]; rfl
  · rw [if_neg (show ¬ nI 2 = 0 by decide), if_neg (show ¬ nI 2 = 1 by decide), if_pos (show nI 2 = 2 from rfl), r9, g6]; rfl
  · rw [if_neg (show ¬ nI 3 = 0 by decide), if_neg (show ¬ nI 3 = 1 by decide), if_neg (show ¬ nI 3 = 2 by decide), if_pos (show nI 3 = 3 from rfl), r9, g5]
    show _ = some (if drS n v a = -1 then 0 else 1, _)
    by_cases e : drS n v a = -1
    · rw [if_pos e, if_pos e]
    · rw [if_neg e, if_neg e]
  · rw [if_neg (show ¬ nI 4 = 0 by decide), if_neg (show ¬ nI 4 = 1 by decide), if_neg (show ¬ nI 4 = 2 by decide), if_neg (show ¬ nI 4 = 3 by decide), if_pos (show nI 4 = 4 from rfl), r9, g2]
    show _ = some (bi (cntQ n v a), _)
    rcases bi_01 (cntQ n v a) with e | e
    · rw [e, if_pos rfl]
    · rw [e, if_neg t10]
  · rw [if_neg (show ¬ nI 5 = 0 by decide), if_neg (show ¬ nI 5 = 1 by decide), if_neg (show ¬ nI 5 = 2 by decide), if_neg (show ¬ nI 5 = 3 by decide), if_neg (show ¬ nI 5 = 4 by decide), r9, g1]
    show _ = some (bi (cutQ n v a), _)
    rcases bi_01 (cutQ n v a) with e | e
    · rw [e, if_pos rfl]
    · rw [e, if_neg t10]
theorem x5_dangerL (h : MB n v s) {st dr : Nat → Int32} (hst : ∀ o, o < n → st o = nI (stN n v o)) (hdr : ∀ o, o < n → dr o = drS n v o) : g_X5_inDanger_L1 s dr st FU (-1) 0 = some (mx n (drv n v) (dsN n v)) := by
  have hn := h.1
  have hs : ∀ o, stN n v o ≤ 10 := fun o => Nat.le_trans (st_le n v o) (by omega)
  have r9 : ∀ {α : Type} {f : Nat → Int32} {j : Nat} {k : Int32 → Option α}, j < n → rdA f 9 (nI j) k = k (f j) := fun hj => rdA_n (by omega) (by decide)
  obtain ⟨y, h1, h2⟩ := lpF (fun nf i (z : Int32) => g_X5_inDanger_L1 s dr st nf z (nI i)) n (fun i z => z = mx i (drv n v) (dsN n v)) (fun y => y = mx n (drv n v) (dsN n v)) (by omega) (-1) rfl
    (fun nf i z hi hI => by
      refine Or.inl ⟨mx (i + 1) (drv n v) (dsN n v), rfl, ?_⟩
      rw [mx_succ i (drv n v) (dsN n v)]
      by_cases hw : drv n v i
      · obtain ⟨b, b1, b2, b3, _⟩ := drv_ix hn hw
        rcases mx_cases i (drv n v) (dsN n v) with ⟨c, c1, c2, c3⟩ | ⟨_, c3⟩
        · obtain ⟨b', d1, d2, d3, _⟩ := drv_ix hn c2
          rw [hI, c3, nI_clamp (by omega)]
          simp only [g_X5_inDanger_L1, x5_n h, go_on hn hi, r9 hi, hdr i hi, b2, if_neg (nI_m1 (show b < 2 ^ 31 by omega)), if_neg (nI_m1 (show c < 2 ^ 31 by omega)), r9 b1, hst b b1, r9 (show c < n by omega), hdr c (by omega), d2, r9 d1, hst b' d1, nI_leS (hs b) (hs b'), g_X5_inDanger_J1, nI_1, b3, d3]
          by_cases e : stN n v b' < stN n v b
          · rw [if_pos e, if_neg (by decide), cite_t ⟨hw, Or.inr e⟩]
          · rw [if_neg e, if_pos trivial, cite_f (fun w => w.2.elim (nI_m1 (by omega)) e)]
        · rw [hI, c3, cite_t ⟨hw, Or.inl rfl⟩]
          simp only [g_X5_inDanger_L1, x5_n h, go_on hn hi, r9 hi, hdr i hi, b2, if_neg (nI_m1 (show b < 2 ^ 31 by omega)), if_true, g_X5_inDanger_J1, nI_1]
          rw [if_neg (by decide)]
      · rw [cite_f (fun w => hw w.1), hI]
        have e1 : drS n v i = -1 := Classical.byContradiction hw
        simp only [g_X5_inDanger_L1, x5_n h, go_on hn hi, r9 hi, hdr i hi, g_X5_inDanger_J1, nI_1, e1, if_true])
    (fun nf z hI => ⟨z, by simp only [g_X5_inDanger_L1, x5_n h, go_out hn], hI⟩)
  exact h1.trans (by rw [h2])
theorem x5_inDanger (h : MB n v s) (hd : dist n v) (q1 q2 q3 q4 q5 q6 q7 q8 : Nat → Int32) : ∃ cu co st fa dr wy dn pl, g_X5_inDanger s q1 q2 q3 q4 q5 q6 q7 q8 = some (mx n (drv n v) (dsN n v), cu, co, st, fa, dr, wy, dn, pl) := by
  obtain ⟨cu, co, st, fa, dr, wy, dn, pl, h1, h2⟩ := x5_opening h hd q1 q2 q3 q4 q5 q6 q7 q8
  refine ⟨cu, co, st, fa, dr, wy, dn, pl, ?_⟩
  rw [g_X5_inDanger, h1, b8_some, x5_dangerL h (fun o ho => (h2 o ho).2.2.1) (fun o ho => (h2 o ho).2.2.2.2.1), bd_some]
theorem x2_danger {st dr wa : Nat → Int32} (h : CB n v bN bC) (hst : ∀ o, o < n → st o = nI (stN n v o)) (hdr : ∀ o, o < n → dr o = drS n v o) : g_X2_mostInDanger bN dr wa st = some (mx n (drv n v) (dsN n v)) := by
  rw [g_X2_mostInDanger, bd_id]
  exact x2_strong h hst hdr 0 (fun o _ => ⟨fun w => ⟨w, Or.inl rfl⟩, fun w => w.1⟩)
theorem has1 (h : CB n v bN bC) (ha : a < n) : g_X0_hasArmy bN (nI a) = some 1 := by
  have hn := h.1
  rw [g_X0_hasArmy, if_neg (nI_pos (by omega)), x0_number0 h, bd_some, go_on hn ha]
/-- the mask of the fields that an army could reach -/
theorem x_reach {tN tO tC : Nat → Int32} (hS : SB n tN tO tC s) (hd : dist n (av s)) (ha : a < n) (c1 c2 c3 c4 q1 q2 q3 q4 q5 q6 q7 q8 : Nat → Int32) :
    ∃ r x1 x2 x3 x4 x5 y1 y2 y3 y4 y5 y6 y7 y8 y9, g_X4_reachMask_L1 tN (nI a) FU 0 0 tC c1 c2 c3 c4 = some (r, x1, x2, x3, x4, x5) ∧ g_X5_reach_L1 (nI a) FU 0 0 q1 q2 q3 q4 q5 q6 s q7 q8 = some (r, y1, y2, y3, y4, y5, y6, y7, y8, y9) := by
  have hn := hS.1
  obtain ⟨b, c, h1, h2, h3⟩ := lq2F (fun nf i (x : Int32 × (Nat → Int32) × (Nat → Int32) × (Nat → Int32) × (Nat → Int32) × (Nat → Int32)) => g_X4_reachMask_L1 tN (nI a) nf x.1 (nI i) x.2.1 x.2.2.1 x.2.2.2.1 x.2.2.2.2.1 x.2.2.2.2.2)
    (fun nf i (y : Int32 × (Nat → Int32) × (Nat → Int32) × (Nat → Int32) × (Nat → Int32) × (Nat → Int32) × (Nat → Int32) × (Nat → Int32) × (Nat → Int32) × (Nat → Int32)) => g_X5_reach_L1 (nI a) nf y.1 (nI i) y.2.1 y.2.2.1 y.2.2.2.1 y.2.2.2.2.1 y.2.2.2.2.2.1 y.2.2.2.2.2.2.1 y.2.2.2.2.2.2.2.1 y.2.2.2.2.2.2.2.2.1 y.2.2.2.2.2.2.2.2.2) 12
    (fun _ x y => x.1 = y.1 ∧ SB n tN tO x.2.1 y.2.2.2.2.2.2.2.1 ∧ ∀ b, b < n → av y.2.2.2.2.2.2.2.1 b 1 = av s b 1) (fun b c => b.1 = c.1) (by decide)
    (0, tC, c1, c2, c3, c4) (0, q1, q2, q3, q4, q5, q6, s, q7, q8) ⟨rfl, hS, fun _ _ => rfl⟩
    (fun nf nf' i x y hi hI => by
      obtain ⟨m, tC, c1, c2, c3, c4⟩ := x
      obtain ⟨m', q1, q2, q3, q4, q5, q6, u, q7, q8⟩ := y
      obtain ⟨e0, hU, hf⟩ := hI
      replace e0 : m = m' := e0
      subst e0
      replace hU : SB n tN tO tC u := hU
      replace hf : ∀ b, b < n → av u b 1 = av s b 1 := hf
      by_cases e : nb (av u a 1) (nI i) = 0
      · refine ⟨(m, tC, c1, c2, c3, c4), (m, q1, q2, q3, q4, q5, q6, u, q7, q8), ⟨rfl, hU, hf⟩, ?_, ?_⟩
        · show g_X4_reachMask_L1 tN (nI a) (nf + 1) m (nI i) tC c1 c2 c3 c4 = g_X4_reachMask_L1 tN (nI a) nf m (nI (i + 1)) tC c1 c2 c3 c4
          rw [g_X4_reachMask_L1, past (M := 12) 12 rfl hi (by decide), x0_can hU (has1 hU.cb ha) ha t10, bd_some, bi_f (fun q => q.1 e), if_pos rfl, nI_1]
        · show g_X5_reach_L1 (nI a) (nf' + 1) m (nI i) q1 q2 q3 q4 q5 q6 u q7 q8 = g_X5_reach_L1 (nI a) nf' m (nI (i + 1)) q1 q2 q3 q4 q5 q6 u q7 q8
          rw [g_X5_reach_L1, past (M := 12) 12 rfl hi (by decide), x5_of1 hU.mb ha, bd_some, x5_nb, bd_some, if_pos e, nI_1]
      · have hU' := hU.lay ha 1 (nI i) (-1)
        have hf' : ∀ b, b < n → av (lay3 u (14 + 7 * a) 1 (nI i) (-1)) b 1 = av s b 1 := fun b hb => by
          rw [← hf b hb]; exact lay3_un (by omega) (by omega) (by omega)
        have hd' : dist n (av (lay3 u (14 + 7 * a) 1 (nI i) (-1))) := fun b c hb hc e => hd b c hb hc (by rw [← hf' b hb, ← hf' c hc]; exact e)
        obtain ⟨cu, co, st, re, g1, g2⟩ := x2_decide hU'.cb hd' c2 c1 c4 c3
        obtain ⟨cu2, co2, st2, fa, dr, wy, dn, pl, g3, g4⟩ := x5_opening hU'.mb hd' q4 q1 q7 q3 q2 q8 q5 q6
        have hgo : goQ (av (lay3 u (14 + 7 * a) 1 (nI i) (-1))) re a ↔ ¬ Fx n (av (lay3 u (14 + 7 * a) 1 (nI i) (-1))) a :=
          (goQ_S hn hd' (g2 a ha).2.2.2).trans ⟨fun w => w.2, fun w => ⟨lay3_2, w⟩⟩
        have k1 : g_X4_reachMask_L1 tN (nI a) (nf + 1) m (nI i) tC c1 c2 c3 c4 = @ite _ (Fx n (av (lay3 u (14 + 7 * a) 1 (nI i) (-1))) a) (Classical.propDecidable _) (g_X4_reachMask_L1 tN (nI a) nf m (nI (i + 1)) (lay3 tC (7 * a) 1 (nI i) (-1)) co cu re st) (g_X4_reachMask_L1 tN (nI a) nf (m ||| (1 <<< (nI i &&& 31))) (nI (i + 1)) (lay3 tC (7 * a) 1 (nI i) (-1)) co cu re st) := by
          have gv : g_X0_give tC (nI a) 1 (-1) (nI i) = some (av u a 2, lay3 tC (7 * a) 1 (nI i) (-1)) := x0_giveS hU ha 1 (-1) (nI i)
          rw [g_X4_reachMask_L1, past (M := 12) 12 rfl hi (by decide), x0_can hU (has1 hU.cb ha) ha t10, bd_some, bi_t ⟨e, Or.inl rfl⟩, if_neg t10, gv, b2_some, g1, b4_some, x2_goes hU'.cb ha, bd_some, bi_c hgo, ibi, nI_1, or_0]
          by_cases w : Fx n (av (lay3 u (14 + 7 * a) 1 (nI i) (-1))) a
          · rw [if_neg (fun z => z w), if_pos w]
          · rw [if_pos w, if_neg w]
        have k2 : g_X5_reach_L1 (nI a) (nf' + 1) m (nI i) q1 q2 q3 q4 q5 q6 u q7 q8 = @ite _ (Fx n (av (lay3 u (14 + 7 * a) 1 (nI i) (-1))) a) (Classical.propDecidable _) (g_X5_reach_L1 (nI a) nf' m (nI (i + 1)) co2 dr fa cu2 dn pl (lay3 u (14 + 7 * a) 1 (nI i) (-1)) st2 wy) (g_X5_reach_L1 (nI a) nf' (m ||| (1 <<< (nI i &&& 31))) (nI (i + 1)) co2 dr fa cu2 dn pl (lay3 u (14 + 7 * a) 1 (nI i) (-1)) st2 wy) := by
          rw [g_X5_reach_L1, past (M := 12) 12 rfl hi (by decide), x5_of1 hU.mb ha, bd_some, x5_nb, bd_some, if_neg e, x5_lays (by omega), bd_some, g3, b8_some, rdA_n (show a < 9 by omega) (by decide), (g4 a ha).2.2.2.1, ibi, nI_1, or_0]
        by_cases w : Fx n (av (lay3 u (14 + 7 * a) 1 (nI i) (-1))) a
        · exact ⟨(m, lay3 tC (7 * a) 1 (nI i) (-1), co, cu, re, st), (m, co2, dr, fa, cu2, dn, pl, lay3 u (14 + 7 * a) 1 (nI i) (-1), st2, wy), ⟨rfl, hU', hf'⟩, k1.trans (if_pos w), k2.trans (if_pos w)⟩
        · exact ⟨(m ||| (1 <<< (nI i &&& 31)), lay3 tC (7 * a) 1 (nI i) (-1), co, cu, re, st), (m ||| (1 <<< (nI i &&& 31)), co2, dr, fa, cu2, dn, pl, lay3 u (14 + 7 * a) 1 (nI i) (-1), st2, wy), ⟨rfl, hU', hf'⟩, k1.trans (if_neg w), k2.trans (if_neg w)⟩)
    (fun nf nf' x y hI => by
      refine ⟨x, y, ?_, ?_, hI.1⟩
      · show g_X4_reachMask_L1 tN (nI a) (nf + 1) x.1 (nI 12) x.2.1 x.2.2.1 x.2.2.2.1 x.2.2.2.2.1 x.2.2.2.2.2 = _
        rw [g_X4_reachMask_L1, pastE (M := 12) 12 rfl (Nat.le_refl _) (by decide)]
      · show g_X5_reach_L1 (nI a) (nf' + 1) y.1 (nI 12) y.2.1 y.2.2.1 y.2.2.2.1 y.2.2.2.2.1 y.2.2.2.2.2.1 y.2.2.2.2.2.2.1 y.2.2.2.2.2.2.2.1 y.2.2.2.2.2.2.2.2.1 y.2.2.2.2.2.2.2.2.2 = _
        rw [g_X5_reach_L1, pastE (M := 12) 12 rfl (Nat.le_refl _) (by decide)])
  obtain ⟨r, x1, x2, x3, x4, x5⟩ := b
  obtain ⟨r', y1, y2, y3, y4, y5, y6, y7, y8, y9⟩ := c
  replace h3 : r = r' := h3
  subst h3
  exact ⟨r, x1, x2, x3, x4, x5, y1, y2, y3, y4, y5, y6, y7, y8, y9, h1, h2⟩
theorem SB_c {n : Nat} {bN bO bC s bN' bO' bC' s' : Nat → Int32} (h : SB n bN bO bC s) (hN : ∀ j, j < 10 → bN' j = bN j) (hO : ∀ j, j < 12 → bO' j = bO j) (hC : ∀ j, j < 63 → bC' j = bC j) (hs : ∀ j, j < 77 → s' j = s j) : SB n bN' bO' bC' s' := by
  obtain ⟨h1, h2, g1, g2, g3, g4, g5⟩ := h
  refine ⟨h1, by rw [hs 9 (by decide)]; exact h2, ?_, fun k hk => ?_, fun k hk => ?_, fun f hf hm => ?_, fun a w ha hw => ?_⟩
  · rw [hN 0 (by decide), hs 9 (by decide)]; exact g1
  · rw [hN _ (by omega), hs k (by omega)]; exact g2 k hk
  · rw [hO _ (by omega), hs _ (by omega)]; exact g3 k hk
  · rw [hO f hf]; exact g4 f hf hm
  · unfold av; rw [hC _ (by omega), hs _ (by omega)]; exact g5 a w ha hw
/-- both sides' reach as they are called; the reference's row is as it was -/
theorem x_reachMask {tN tO tC : Nat → Int32} (hS : SB n bN bO bC s) (hd : dist n (av s)) (ha : a < n) (c1 c2 c3 c4 q0 q1 q2 q3 q4 q5 q6 q7 q8 : Nat → Int32) :
    ∃ r x1 x2 x3 x4 x5 x6 x7 s' y1 y2 y3 y4 y5 y6 y7 y8 y9, g_X4_reachMask bN tN bO tO bC tC c1 c2 c3 c4 (nI a) = some (r, x1, x2, x3, x4, x5, x6, x7) ∧ g_X5_reach s q0 q1 q2 q3 q4 q5 q6 q7 q8 (nI a) = some (r, s', y1, y2, y3, y4, y5, y6, y7, y8, y9) ∧ ∀ j, j < 77 → s' j = s j := by
  obtain ⟨as, g1, g2⟩ := x5_putAside s q0
  have hT : SB n (va_cpy bN tN 0 0 10) (va_cpy bO tO 0 0 12) (va_cpy bC tC 0 0 63) s := SB_c hS (fun j hj => cp0 hj) (fun j hj => cp0 hj) (fun j hj => cp0 hj) (fun j hj => rfl)
  obtain ⟨r, x1, x2, x3, x4, x5, y1, y2, y3, y4, y5, y6, y7, y8, y9, h1, h2⟩ := x_reach hT hd ha c2 c1 c4 c3 q2 q5 q4 q1 q7 q8 q3 q6
  obtain ⟨s', g3, g4⟩ := x5_putBack as y7
  refine ⟨r, va_cpy bN tN 0 0 10, va_cpy bO tO 0 0 12, x1, x3, x2, x5, x4, s', as, y4, y1, y8, y3, y2, y9, y5, y6, ?_, ?_, fun j hj => by rw [g4 j hj, g2 j hj]⟩
  · rw [g_X4_reachMask, g_X0_copyFrom, b3_some, h1, b6_some]
  · rw [g_X5_reach, g1, bd_some, h2, b10_some, g3, bd_some]
end WB
