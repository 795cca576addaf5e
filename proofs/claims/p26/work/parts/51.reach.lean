/-! p26: the mask of canReach, bit by bit -/
def ordv (v : Nat → Nat → Int32) (a : Nat) (t : Int32) : Nat → Nat → Int32 := fun b w => if b = a ∧ w = 2 then 1 else if b = a ∧ w = 3 then t else if b = a ∧ w = 4 then -1 else v b w
theorem ordv_2 {v : Nat → Nat → Int32} {a : Nat} {t : Int32} : ordv v a t a 2 = 1 := if_pos ⟨rfl, rfl⟩
theorem ordv_3 {v : Nat → Nat → Int32} {a : Nat} {t : Int32} : ordv v a t a 3 = t := by
  unfold ordv; rw [if_neg (fun h => absurd h.2 (by decide)), if_pos ⟨rfl, rfl⟩]
theorem ordv_4 {v : Nat → Nat → Int32} {a : Nat} {t : Int32} : ordv v a t a 4 = -1 := by
  unfold ordv; rw [if_neg (fun h => absurd h.2 (by decide)), if_neg (fun h => absurd h.2 (by decide)), if_pos ⟨rfl, rfl⟩]
theorem ordv_un {v : Nat → Nat → Int32} {a b w : Nat} {t : Int32} (h : b ≠ a ∨ (w ≠ 2 ∧ w ≠ 3 ∧ w ≠ 4)) : ordv v a t b w = v b w := by
  unfold ordv; rw [if_neg (fun q => by omega), if_neg (fun q => by omega), if_neg (fun q => by omega)]
theorem ordv_self {v : Nat → Nat → Int32} {a : Nat} (h2 : v a 2 = 1) (h4 : v a 4 = -1) : ordv v a (v a 3) = v := by
  funext b w
  by_cases e : b = a
  · subst e
    by_cases e2 : w = 2
    · subst e2; rw [ordv_2, h2]
    · by_cases e3 : w = 3
      · subst e3; rw [ordv_3]
      · by_cases e4 : w = 4
        · subst e4; rw [ordv_4, h4]
        · exact ordv_un (Or.inr ⟨e2, e3, e4⟩)
  · exact ordv_un (Or.inl e)
def rchP (n : Nat) (v : Nat → Nat → Int32) (a f : Nat) : Prop := ¬ nb (v a 1) (nI f) = 0 ∧ ¬ Fx n (ordv v a (nI f)) a
theorem bt_sh : ∀ i, i < 12 → ∀ f, f < 32 → bt ((1 : Int32) <<< (nI i &&& 31)) f = decide (f = i) := by decide +kernel
theorem x0_can1 {n : Nat} {v : Nat → Nat → Int32} {bN bC : Nat → Int32} {a : Nat} (hp : g_X0_hasArmy bN (nI a) = some 1) (h1 : g_X0_of bC (nI a) 1 = some (v a 1)) (f t : Int32) : g_X0_canBeGiven bN bC (nI a) 1 f t = some (bi (¬ nb (v a 1) t = 0)) := by
  rw [g_X0_canBeGiven, hp, bd_some, if_neg t10, if_neg t10, h1, bd_some, x4_nb, bd_some, if_pos rfl]
  by_cases e1 : nb (v a 1) t = 0 <;> simp [e1, bi]
section RC
variable {K n : Nat} {bN bO bC s tN tC : Nat → Int32} {a : Nat} {v : Nat → Nat → Int32}
theorem x4_reach (hn : n ≤ 9) (hd : dist n v) (h0 : tN 0 = nI n) (hC : ∀ b w, b < n → w < 7 → tC (7 * b + w) = v b w) (ha : a < n) (c1 c2 c3 c4 : Nat → Int32) :
    ∃ r x1 x2 x3 x4 x5, g_X4_reachMask_L1 tN (nI a) FU 0 0 tC c1 c2 c3 c4 = some (r, x1, x2, x3, x4, x5) ∧ ∀ f, f < 32 → (bt r f = true ↔ f < 12 ∧ rchP n v a f) := by
  have hd' : ∀ t, dist n (ordv v a t) := fun t b c hb hc e => hd b c hb hc (by rw [ordv_un (Or.inr (by omega)), ordv_un (Or.inr (by omega))] at e; exact e)
  have hp : g_X0_hasArmy tN (nI a) = some 1 := has1 (show CB n (fun b w => tC (7 * b + w)) tN tC from ⟨hn, h0, fun _ _ _ _ => rfl⟩) ha
  obtain ⟨⟨r, x1, x2, x3, x4, x5⟩, h1, h2⟩ := lpF (fun nf i (x : Int32 × (Nat → Int32) × (Nat → Int32) × (Nat → Int32) × (Nat → Int32) × (Nat → Int32)) => g_X4_reachMask_L1 tN (nI a) nf x.1 (nI i) x.2.1 x.2.2.1 x.2.2.2.1 x.2.2.2.2.1 x.2.2.2.2.2) 12
    (fun i x => (∀ f, f < 32 → (bt x.1 f = true ↔ f < i ∧ rchP n v a f)) ∧ ∀ b w, b < n → w < 7 → (b ≠ a ∨ w < 2 ∨ 4 < w) → x.2.1 (7 * b + w) = v b w)
    (fun x => ∀ f, f < 32 → (bt x.1 f = true ↔ f < 12 ∧ rchP n v a f)) (by decide) (0, tC, c1, c2, c3, c4) ⟨fun f _ => by rw [b_0]; exact ⟨fun e => absurd e (by decide), fun e => by omega⟩, fun b w hb hw _ => hC b w hb hw⟩
    (fun nf i x hi hI => by
      obtain ⟨m, C, c1, c2, c3, c4⟩ := x
      obtain ⟨i1, i2⟩ := hI
      replace i1 : ∀ f, f < 32 → (bt m f = true ↔ f < i ∧ rchP n v a f) := i1
      replace i2 : ∀ b w, b < n → w < 7 → (b ≠ a ∨ w < 2 ∨ 4 < w) → C (7 * b + w) = v b w := i2
      have ho1 : g_X0_of C (nI a) 1 = some (v a 1) := (x0_cell (w := 1) (by omega)).trans (by rw [i2 a 1 ha (by decide) (by omega)])
      have skip : ¬ rchP n v a i → ∀ f, f < 32 → (bt m f = true ↔ f < i + 1 ∧ rchP n v a f) := fun hno f hf => by
        rw [i1 f hf]
        refine ⟨fun q => ⟨by omega, q.2⟩, fun q => ⟨?_, q.2⟩⟩
        by_cases e : f = i
        · subst e; exact absurd q.2 hno
        · omega
      by_cases e : nb (v a 1) (nI i) = 0
      · refine Or.inl ⟨(m, C, c1, c2, c3, c4), ⟨skip (fun q => q.1 e), i2⟩, ?_⟩
        show g_X4_reachMask_L1 tN (nI a) (nf + 1) m (nI i) C c1 c2 c3 c4 = g_X4_reachMask_L1 tN (nI a) nf m (nI (i + 1)) C c1 c2 c3 c4
        rw [g_X4_reachMask_L1, past (M := 12) 12 rfl hi (by decide), x0_can1 (n := n) hp ho1, bd_some, bi_f (fun q => q e), if_pos rfl, nI_1]
      · have hcb : CB n (ordv v a (nI i)) tN (lay3 C (7 * a) 1 (nI i) (-1)) := ⟨hn, h0, fun b w hb hw => by
          by_cases eb : b = a
          · subst eb
            by_cases e2 : w = 2
            · subst e2; rw [lay3_2, ordv_2]
            · by_cases e3 : w = 3
              · subst e3; rw [lay3_3, ordv_3]
              · by_cases e4 : w = 4
                · subst e4; rw [lay3_4, ordv_4]
                · rw [lay3_un (by omega) (by omega) (by omega), ordv_un (Or.inr ⟨e2, e3, e4⟩), i2 b w hb hw (by omega)]
          · rw [lay3_un (by omega) (by omega) (by omega), ordv_un (Or.inl eb), i2 b w hb hw (Or.inl eb)]⟩
        obtain ⟨cu, co, st, re, g1, g2⟩ := x2_decide hcb (hd' _) c2 c1 c4 c3
        have hgo : goQ (ordv v a (nI i)) re a ↔ ¬ Fx n (ordv v a (nI i)) a := (goQ_S hn (hd' _) (g2 a ha).2.2.2).trans ⟨fun w => w.2, fun w => ⟨ordv_2, w⟩⟩
        have gv : g_X0_give C (nI a) 1 (-1) (nI i) = some (C (7 * a + 2), lay3 C (7 * a) 1 (nI i) (-1)) := x0_give (by omega) 1 (-1) (nI i)
        have k1 : g_X4_reachMask_L1 tN (nI a) (nf + 1) m (nI i) C c1 c2 c3 c4 = @ite _ (Fx n (ordv v a (nI i)) a) (Classical.propDecidable _) (g_X4_reachMask_L1 tN (nI a) nf m (nI (i + 1)) (lay3 C (7 * a) 1 (nI i) (-1)) co cu re st) (g_X4_reachMask_L1 tN (nI a) nf (m ||| (1 <<< (nI i &&& 31))) (nI (i + 1)) (lay3 C (7 * a) 1 (nI i) (-1)) co cu re st) := by
          rw [g_X4_reachMask_L1, past (M := 12) 12 rfl hi (by decide), x0_can1 (n := n) hp ho1, bd_some, bi_t e, if_neg t10, gv, b2_some, g1, b4_some, x2_goes hcb ha, bd_some, bi_c hgo, ibi, nI_1, or_0]
          by_cases w : Fx n (ordv v a (nI i)) a
          · rw [if_neg (fun z => z w), if_pos w]
          · rw [if_pos w, if_neg w]
        have i2' : ∀ b w, b < n → w < 7 → (b ≠ a ∨ w < 2 ∨ 4 < w) → lay3 C (7 * a) 1 (nI i) (-1) (7 * b + w) = v b w := fun b w hb hw ho => by
          rw [lay3_un (by omega) (by omega) (by omega)]; exact i2 b w hb hw ho
        by_cases w : Fx n (ordv v a (nI i)) a
        · exact Or.inl ⟨(m, lay3 C (7 * a) 1 (nI i) (-1), co, cu, re, st), ⟨skip (fun q => q.2 w), i2'⟩, k1.trans (if_pos w)⟩
        · refine Or.inl ⟨(m ||| (1 <<< (nI i &&& 31)), lay3 C (7 * a) 1 (nI i) (-1), co, cu, re, st), ⟨fun f hf => ?_, i2'⟩, k1.trans (if_neg w)⟩
          show bt (m ||| (1 <<< (nI i &&& 31))) f = true ↔ _
          rw [b_or, bt_sh i hi f hf, Bool.or_eq_true, i1 f hf, decide_eq_true_iff]
          constructor
          · rintro (q | q)
            · exact ⟨by omega, q.2⟩
            · subst q; exact ⟨by omega, e, w⟩
          · rintro ⟨q1, q2⟩
            by_cases q : f = i
            · exact Or.inr q
            · exact Or.inl ⟨by omega, q2⟩)
    (fun nf x hI => ⟨x, by
      show g_X4_reachMask_L1 tN (nI a) (nf + 1) x.1 (nI 12) x.2.1 x.2.2.1 x.2.2.2.1 x.2.2.2.2.1 x.2.2.2.2.2 = _
      rw [g_X4_reachMask_L1, pastE (M := 12) 12 rfl (Nat.le_refl _) (by decide)], hI.1⟩)
  exact ⟨r, x1, x2, x3, x4, x5, h1, h2⟩
theorem wp_reach {β : Type} {k : Int32 → Int32 → (Nat → Int32) → (Nat → Int32) → (Nat → Int32) → (Nat → Int32) → (Nat → Int32) → (Nat → Int32) → (Nat → Int32) → Option β} {P : β → Prop} (hok : okS K n s) (hE : eqB n bN bO bC s) (ha : a < n) {tN tO tC c1 c2 c3 c4 : Nat → Int32}
    (hk : ∀ r d1 d2 d3 d4 d5 d6 d7, (∀ f, f < 32 → (bt r f = true ↔ f < 12 ∧ rchP n (av s) a f)) → WP (k 0 r d1 d2 d3 d4 d5 d6 d7) P) : WP (b9 (g_X4_canReach bN tN bO tO bC tC c1 c2 c3 c4 (nI a)) k) P := by
  have hS := hok.sb hE
  have hn := hok.1
  have hcb := hS.cb
  obtain ⟨r, x1, x2, x3, x4, x5, g1, g2⟩ := x4_reach (tN := va_cpy bN tN 0 0 10) (tC := va_cpy bC tC 0 0 63) (a := a) hn hok.d (by rw [cp0 (by decide)]; exact hcb.2.1) (fun b w hb hw => by rw [cp0 (by omega)]; exact hcb.2.2 b w hb hw) ha c2 c1 c4 c3
  have e : g_X4_canReach bN tN bO tO bC tC c1 c2 c3 c4 (nI a) = some (0, r, va_cpy bN tN 0 0 10, va_cpy bO tO 0 0 12, x1, x3, x2, x5, x4) := by
    rw [g_X4_canReach, has1 hS.cb ha, bd_some, if_neg t10, g_X4_reachMask, g_X0_copyFrom, b3_some, g1, b6_some, b8_some]
  rw [e, b9_some]
  exact hk _ _ _ _ _ _ _ _ g2
end RC
