/-! p26: an opening, held to what was said of it -/
theorem rs_v (n : Nat) (v : Nat → Nat → Int32) (F : Nat → Prop) (a : Nat) : rs n v F a = 0 ∨ rs n v F a = 1 ∨ rs n v F a = 2 ∨ rs n v F a = 3 ∨ rs n v F a = 4 := by
  have c : ∀ (P : Prop) (a b : Int32), cite P a b = a ∨ cite P a b = b := fun P a b => by
    by_cases h : P
    · exact Or.inl (cite_t h)
    · exact Or.inr (cite_f h)
  have hb : ∀ o, blk n v a o = 0 ∨ blk n v a o = 3 ∨ blk n v a o = 4 := fun o => by
    unfold blk
    by_cases h : v o 0 = v a 0
    · rw [if_pos h]; exact Or.inr (Or.inl rfl)
    · rw [if_neg h]
      by_cases h2 : stN n v a ≤ (if v o 2 = 1 then 1 else stN n v o)
      · rw [if_pos h2]; exact Or.inr (Or.inr rfl)
      · rw [if_neg h2]; exact Or.inl rfl
  have ho : ∀ o, rsO n v F a o = 0 ∨ rsO n v F a o = 2 ∨ rsO n v F a o = 3 ∨ rsO n v F a o = 4 := fun o => by
    unfold rsO
    rcases c (swpP n v a o) 2 (cite (stayP v F o) (blk n v a o) 0) with h | h
    · rw [h]; exact Or.inr (Or.inl rfl)
    · rw [h]
      rcases c (stayP v F o) (blk n v a o) 0 with h2 | h2
      · rw [h2]
        rcases hb o with h3 | h3 | h3
        · exact Or.inl h3
        · exact Or.inr (Or.inr (Or.inl h3))
        · exact Or.inr (Or.inr (Or.inr h3))
      · rw [h2]; exact Or.inl rfl
  unfold rs
  rcases c (rivP n v a) 1 (rsT n v F a) with h | h
  · rw [h]; exact Or.inr (Or.inl rfl)
  · rw [h]
    unfold rsT
    by_cases h2 : (fi n fun c => v c 1 = v a 3) = -1
    · rw [if_pos h2]; exact Or.inl rfl
    · rw [if_neg h2]
      rcases ho (fi n fun c => v c 1 = v a 3).toNatClampNeg with h3 | h3 | h3 | h3
      · exact Or.inl h3
      · exact Or.inr (Or.inr (Or.inl h3))
      · exact Or.inr (Or.inr (Or.inr (Or.inl h3)))
      · exact Or.inr (Or.inr (Or.inr (Or.inr h3)))
theorem wy_le {n : Nat} {v : Nat → Nat → Int32} {a : Nat} (hn : n ≤ 9) (hd : dist n v) : wyS n v a ≤ 0 ↔ ¬ Fx n v a := by
  rw [← wyS_0 hn hd]
  constructor
  · intro h
    by_cases hf : Fx n v a
    · have e : wyS n v a = rs n v (Fx n v) a := cite_t hf
      rw [e] at h ⊢
      rcases rs_v n v (Fx n v) a with q | q | q | q | q
      · exact q
      · rw [q] at h; exact absurd h (by decide)
      · rw [q] at h; exact absurd h (by decide)
      · rw [q] at h; exact absurd h (by decide)
      · rw [q] at h; exact absurd h (by decide)
    · exact cite_f hf
  · intro h; rw [h]; decide
theorem num_sum {P Q R : Nat → Prop} : ∀ n, (∀ a, a < n → (P a ↔ (Q a ∨ R a)) ∧ ¬ (Q a ∧ R a)) → num n P = num n Q + num n R := by
  intro n
  induction n with
  | zero => intro _; rfl
  | succ n ih =>
    intro h
    have e := ih (fun a ha => h a (by omega))
    obtain ⟨h1, h2⟩ := h n (by omega)
    by_cases q : Q n
    · rw [num_t (P := P) (h1.mpr (Or.inl q)), num_t (P := Q) q, num_f (P := R) (fun r => h2 ⟨q, r⟩)]; omega
    · by_cases r : R n
      · rw [num_t (P := P) (h1.mpr (Or.inr r)), num_f (P := Q) q, num_t (P := R) r]; omega
      · rw [num_f (P := P) (fun w => (h1.mp w).elim q r), num_f (P := Q) q, num_f (P := R) r]; omega
theorem num_all : ∀ n, num n (fun _ => True) = n := by
  intro n
  induction n with
  | zero => rfl
  | succ n ih => rw [num_t (P := fun _ => True) trivial, ih]
theorem num_non {P : Nat → Prop} (n : Nat) : num n P + num n (fun a => ¬ P a) = n := by
  have := num_sum (P := fun _ => True) (Q := P) (R := fun a => ¬ P a) n (fun a _ => ⟨⟨fun _ => Classical.em _, fun _ => trivial⟩, fun q => q.2 q.1⟩)
  rw [num_all] at this; omega
theorem i_bal {x b8 b9 d u w : Int32} (h : x + w = d + u) : x = ((d + (b8 + u)) - (b9 + w)) - (b8 - b9) := by grind
theorem i_bal4 (b g f : Int32) : b + g = (b + (g + f)) - f := by grind
theorem i_dg {a d g : Int32} (h : a = d + g) : a - g = d := by grind
section OS
variable {K n : Nat} {bN bO bC s : Nat → Int32}
theorem os_L1 (hok : okS K n s) (hE : eqB n bN bO bC s) (f1 f2 f3 f4 f5 f6 f7 f8 : Nat → Int32) : WP (g_L_opens_L1 bN bC bO FU 0 f1 f2 f3 f4 f5 f6 f7 f8) (fun z => ∀ q, q < 3 → z.2.2.2.2.2.2.2 q = nI (cthN n (av s) bO (nI q))) := by
  refine wp_loop (fun nf i (x : (Nat → Int32) × (Nat → Int32) × (Nat → Int32) × (Nat → Int32) × (Nat → Int32) × (Nat → Int32) × (Nat → Int32) × (Nat → Int32)) => g_L_opens_L1 bN bC bO nf (nI i) x.1 x.2.1 x.2.2.1 x.2.2.2.1 x.2.2.2.2.1 x.2.2.2.2.2.1 x.2.2.2.2.2.2.1 x.2.2.2.2.2.2.2) 3
    (fun i x => ∀ q, q < i → x.2.2.2.2.2.2.2 q = nI (cthN n (av s) bO (nI q))) _ (by decide) (f1, f2, f3, f4, f5, f6, f7, f8) (fun q hq => by omega) (fun nf i x hi hI K' => ?_) (fun nf x hI => ?_)
  · obtain ⟨q1, q2, q3, q4, q5, q6, q7, q8⟩ := x
    replace hI : ∀ q, q < i → q8 q = nI (cthN n (av s) bO (nI q)) := hI
    show WP (g_L_opens_L1 bN bC bO (nf + 1) (nI i) q1 q2 q3 q4 q5 q6 q7 q8) _
    rw [g_L_opens_L1, past (M := 3) 3 rfl hi (by decide)]
    refine wp_ifY hok hE hi (fun d1 d2 d3 d4 d5 d6 d7 => ?_)
    rw [nz0_0, wrA_n hi (by decide), nI_1]
    refine K' (_, _, _, _, _, _, _, upd q8 i (nI (cthN n (av s) bO (nI i)))) (fun q hq => ?_)
    show upd q8 i (nI (cthN n (av s) bO (nI i))) q = _
    by_cases e : q = i
    · subst e; exact pk_us
    · rw [pk_un e]; exact hI q (by omega)
  · obtain ⟨q1, q2, q3, q4, q5, q6, q7, q8⟩ := x
    show WP (g_L_opens_L1 bN bC bO (nf + 1) (nI 3) q1 q2 q3 q4 q5 q6 q7 q8) _
    rw [g_L_opens_L1, pastE (M := 3) 3 rfl (Nat.le_refl _) (by decide)]
    exact wp_ret hI
theorem os_J1 {P : ((Int32 × Int32 × Int32 × (Nat → Int32) × (Nat → Int32) × (Nat → Int32) × (Nat → Int32) × (Nat → Int32) × (Nat → Int32) × (Nat → Int32) × (Nat → Int32) × (Nat → Int32))) → Prop} (hok : okS K n s) (hE : eqB n bN bO bC s) {i : Nat} (hi : i < n) (x y z w : Int32) (f1 f2 f3 f4 f5 f6 f7 g1 g2 : Nat → Int32) {bk}
    (hk : ∀ d1 d2 d3 d4 d5 d6 d7, WP (bk (x + w) (y + bi (drv n (av s) i)) (z + bi (pfS n (av s) i = -1)) (nI i + 1) d1 d2 d3 d4 d5 d6 d7 (upd g2 i (pfS n (av s) i)) (upd g1 i (av s i 0))) P) :
    WP (g_L_opens_J1 bN bC f1 f2 f3 f4 f5 f6 f7 (nI i) g1 g2 x y z bk w) P := by
  have hn := hok.1
  rw [g_L_opens_J1]
  refine wp_ifO hok hE hi (w := 3) (by decide) (fun d1 d2 d3 d4 d5 d6 d7 => ?_)
  rw [nz0_0, out3b, sp_a0 hok hE hi, b2_some, nz0_0, wrA_n (show i < 9 by omega) (by decide)]
  refine wp_ifO hok hE hi (w := 0) (by decide) (fun d1 d2 d3 d4 d5 d6 d7 => ?_)
  rw [nz0_0, out0, wrA_n (show i < 9 by omega) (by decide), rdA_n (show i < 9 by omega) (by decide), pk_us]
  rcases hok.pf.1 i hi with e | ⟨f, hf, e⟩
  · rw [if_neg (show ¬ 0 ≤ pfS n (av s) i by rw [e]; decide)]
    have := hk d2 d1 d5 d4 d3 d6 d7
    rw [bi_t e] at this
    exact hk _ _ _ _ _ _ _ |> fun h => by rw [bi_t e] at h; exact h
  · rw [if_pos (show 0 ≤ pfS n (av s) i by rw [e]; exact nI_le (a := 0) (Nat.zero_le _) (by omega))]
    exact hk _ _ _ _ _ _ _ |> fun h => by rw [bi_f (show ¬ pfS n (av s) i = -1 by rw [e]; exact nI_m1 (by omega))] at h; exact h
theorem os_L2 (hok : okS K n s) (hE : eqB n bN bO bC s) (f1 f2 f3 f4 f5 f6 f7 f8 f9 : Nat → Int32) : WP (g_L_opens_L2 (nI n) bN bC FU 0 0 0 0 f1 f2 f3 f4 f5 f6 f7 f8 f9) (fun z => z.1 = nI (num n (Fx n (av s))) ∧ z.2.1 = nI (num n (drv n (av s))) ∧ z.2.2.1 = nI (num n fun a => pfS n (av s) a = -1) ∧ ∀ a, a < n → z.2.2.2.2.2.2.2.2.2.2.1 a = pfS n (av s) a ∧ z.2.2.2.2.2.2.2.2.2.2.2 a = av s a 0) := by
  have hn := hok.1
  refine wp_loop (fun nf i (x : Int32 × Int32 × Int32 × (Nat → Int32) × (Nat → Int32) × (Nat → Int32) × (Nat → Int32) × (Nat → Int32) × (Nat → Int32) × (Nat → Int32) × (Nat → Int32) × (Nat → Int32)) => g_L_opens_L2 (nI n) bN bC nf x.1 x.2.1 x.2.2.1 (nI i) x.2.2.2.1 x.2.2.2.2.1 x.2.2.2.2.2.1 x.2.2.2.2.2.2.1 x.2.2.2.2.2.2.2.1 x.2.2.2.2.2.2.2.2.1 x.2.2.2.2.2.2.2.2.2.1 x.2.2.2.2.2.2.2.2.2.2.1 x.2.2.2.2.2.2.2.2.2.2.2) n
    (fun i x => x.1 = nI (num i (Fx n (av s))) ∧ x.2.1 = nI (num i (drv n (av s))) ∧ x.2.2.1 = nI (num i fun a => pfS n (av s) a = -1) ∧ ∀ a, a < i → x.2.2.2.2.2.2.2.2.2.2.1 a = pfS n (av s) a ∧ x.2.2.2.2.2.2.2.2.2.2.2 a = av s a 0) _ (by omega) (0, 0, 0, f1, f2, f3, f4, f5, f6, f7, f8, f9) ⟨rfl, rfl, rfl, fun a ha => by omega⟩ (fun nf i x hi hI K' => ?_) (fun nf x hI => ?_)
  · obtain ⟨x1, x2, x3, q1, q2, q3, q4, q5, q6, q7, q8, q9⟩ := x
    obtain ⟨h1, h2, h3, h4⟩ := hI
    replace h1 : x1 = nI (num i (Fx n (av s))) := h1
    replace h2 : x2 = nI (num i (drv n (av s))) := h2
    replace h3 : x3 = nI (num i fun a => pfS n (av s) a = -1) := h3
    replace h4 : ∀ a, a < i → q8 a = pfS n (av s) a ∧ q9 a = av s a 0 := h4
    show WP (g_L_opens_L2 (nI n) bN bC (nf + 1) x1 x2 x3 (nI i) q1 q2 q3 q4 q5 q6 q7 q8 q9) _
    have K1 : ∀ w, w = bi (Fx n (av s) i) → ∀ d1 d2 d3 d4 d5 d6 d7, WP (g_L_opens_L2 (nI n) bN bC nf (x1 + w) (x2 + bi (drv n (av s) i)) (x3 + bi (pfS n (av s) i = -1)) (nI i + 1) d1 d2 d3 d4 d5 d6 d7 (upd q8 i (pfS n (av s) i)) (upd q9 i (av s i 0))) _ := fun w hw d1 d2 d3 d4 d5 d6 d7 => by
      rw [hw, h1, h2, h3, ← num_bi, ← num_bi, ← num_bi i (fun a => pfS n (av s) a = -1), nI_1]
      refine K' (_, _, _, d1, d2, d3, d4, d5, d6, d7, upd q8 i (pfS n (av s) i), upd q9 i (av s i 0)) ⟨rfl, rfl, rfl, fun a ha => ?_⟩
      show upd q8 i (pfS n (av s) i) a = _ ∧ upd q9 i (av s i 0) a = _
      by_cases e : a = i
      · subst e; exact ⟨pk_us, pk_us⟩
      · rw [pk_un e, pk_un e]; exact h4 a (by omega)
    rw [g_L_opens_L2, go_on hn hi]
    refine wp_ifO hok hE hi (w := 2) (by decide) (fun d1 d2 d3 d4 d5 d6 d7 => ?_)
    rw [nz0_0, out2]
    refine wp_if (fun e => ?_) (fun e => ?_)
    · exact os_J1 hok hE hi _ _ _ _ _ _ _ _ _ _ _ _ _ (K1 0 (bi_f ((wy_le hn hok.d).mp e)).symm)
    · exact os_J1 hok hE hi _ _ _ _ _ _ _ _ _ _ _ _ _ (K1 1 (bi_t (Classical.byContradiction fun q => e ((wy_le hn hok.d).mpr q))).symm)
  · obtain ⟨x1, x2, x3, q1, q2, q3, q4, q5, q6, q7, q8, q9⟩ := x
    show WP (g_L_opens_L2 (nI n) bN bC (nf + 1) x1 x2 x3 (nI n) q1 q2 q3 q4 q5 q6 q7 q8 q9) _
    rw [g_L_opens_L2, go_out hn]
    exact wp_ret hI
/-- behind the opening: the armies, in the order that they had -/
theorem os_L3 {m : Nat} {N' O' C' s' g1 g2 : Nat → Int32} (hok : okS K n s) (hok' : okS (K + 1) m s') (hE' : eqB m N' O' C' s') (hb : bN 2 = 0 ∨ bN 2 = 1) (hg : ∀ a, a < n → g1 a = pfS n (av s) a ∧ g2 a = av s a 0)
    (h0 : bN 2 = 0 → ∀ a, a < n → ¬ pfS n (av s) a = -1 → num a (fun a => ¬ pfS n (av s) a = -1) < m ∧ av s' (num a fun a => ¬ pfS n (av s) a = -1) 0 = av s a 0 ∧ av s' (num a fun a => ¬ pfS n (av s) a = -1) 1 = pfS n (av s) a) :
    WP (g_L_opens_L3 (nI n) (bN 2) g1 N' C' g2 FU 1 0 0) (fun z => z = 1) := by
  have hn := hok.1
  refine wp_loop (fun nf i (x : Int32 × Int32) => g_L_opens_L3 (nI n) (bN 2) g1 N' C' g2 nf x.1 x.2 (nI i)) n (fun i x => x.1 = 1 ∧ x.2 = nI (num i fun a => ¬ pfS n (av s) a = -1)) _ (by omega) (1, 0) ⟨rfl, rfl⟩ (fun nf i x hi hI K' => ?_) (fun nf x hI => ?_)
  · obtain ⟨x, y⟩ := x
    obtain ⟨h1, h2⟩ := hI
    replace h1 : x = 1 := h1
    replace h2 : y = nI (num i fun a => ¬ pfS n (av s) a = -1) := h2
    subst h1; subst h2
    show WP (g_L_opens_L3 (nI n) (bN 2) g1 N' C' g2 (nf + 1) 1 (nI (num i fun a => ¬ pfS n (av s) a = -1)) (nI i)) _
    rw [g_L_opens_L3, go_on hn hi, if_neg t10]
    have r1 : ∀ {α : Type} {k : Int32 → Option α}, rdA g1 9 (nI i) k = k (pfS n (av s) i) := fun {α k} => (rdA_n (show i < 9 by omega) (by decide)).trans (by rw [(hg i hi).1])
    have r2 : ∀ {α : Type} {k : Int32 → Option α}, rdA g2 9 (nI i) k = k (av s i 0) := fun {α k} => (rdA_n (show i < 9 by omega) (by decide)).trans (by rw [(hg i hi).2])
    have J : WP (g_L_opens_J4 g1 (nI i) (nI (num i fun a => ¬ pfS n (av s) a = -1)) (g_L_opens_L3 (nI n) (bN 2) g1 N' C' g2 nf) 1) (fun z => z = 1) := by
      rw [g_L_opens_J4, r1, show nI i + 1 = nI (i + 1) from nI_1 i]
      have K1 := K' (1, nI (num (i + 1) fun a => ¬ pfS n (av s) a = -1)) ⟨rfl, rfl⟩
      rw [num_bi i (fun a => ¬ pfS n (av s) a = -1)] at K1
      rcases hok.pf.1 i hi with e | ⟨f, hf, e⟩
      · rw [if_neg (show ¬ 0 ≤ pfS n (av s) i by rw [e]; decide)]
        rw [bi_f (fun q => q e)] at K1; exact K1
      · rw [if_pos (show 0 ≤ pfS n (av s) i by rw [e]; exact nI_le (a := 0) (Nat.zero_le _) (by omega))]
        rw [bi_t (show ¬ pfS n (av s) i = -1 by rw [e]; exact nI_m1 (by omega))] at K1; exact K1
    refine wp_if (fun e2 => ?_) (fun _ => wp_ret rfl)
    rw [r1]
    refine wp_if (fun _ => J) (fun e => ?_)
    have hp : ¬ pfS n (av s) i = -1 := fun q => e (by rw [q]; decide)
    obtain ⟨p1, p2, p3⟩ := h0 e2 i hi hp
    rw [sp_a1 hok' hE' p1, b2_some, nz0_0, r1, p3, if_pos rfl, sp_a0 hok' hE' p1, b2_some, nz0_0, r2, p2, if_pos rfl]
    exact J
  · obtain ⟨x, y⟩ := x
    replace hI : x = 1 := hI.1
    show WP (g_L_opens_L3 (nI n) (bN 2) g1 N' C' g2 (nf + 1) x y (nI n)) _
    rw [g_L_opens_L3, go_out hn]
    exact wp_ret hI
/-- behind the opening of a year's second season: what belongs to the seats -/
theorem os_L4 {v : Nat → Nat → Int32} {m : Nat} {N' O' C' s' g : Nat → Int32} (hok' : okS (K + 1) m s') (hE' : eqB m N' O' C' s') (hg : ∀ q, q < 3 → g q = nI (cthN n v bO (nI q)))
    (h1 : bN 2 = 1 → ∀ q, q < 3 → num 12 (fun f => O' f = nI q) = cthN n v bO (nI q) ∧ sn m s' q ≤ num 12 (fun f => O' f = nI q) + 1) :
    WP (g_L_opens_L4 (bN 2) N' C' O' g FU 1 0) (fun z => z = 1) := by
  refine wp_loop (fun nf i (x : Int32) => g_L_opens_L4 (bN 2) N' C' O' g nf x (nI i)) 3 (fun _ x => x = 1) _ (by decide) 1 rfl (fun nf i x hi hI K' => ?_) (fun nf x hI => ?_)
  · replace hI : x = 1 := hI
    subst hI
    show WP (g_L_opens_L4 (bN 2) N' C' O' g (nf + 1) 1 (nI i)) _
    rw [g_L_opens_L4, past (M := 3) 3 rfl hi (by decide), if_neg t10]
    refine wp_if (fun e2 => ?_) (fun _ => wp_ret rfl)
    obtain ⟨q1, q2⟩ := h1 e2 i hi
    have hle := num_le 12 (fun f => O' f = nI i)
    have r1 : ∀ {α : Type} {k : Int32 → Option α}, rdA g 3 (nI i) k = k (nI (num 12 fun f => O' f = nI i)) := fun {α k} => (rdA_n hi (by decide)).trans (by rw [hg i hi, q1])
    rw [sp_s1 _ _ _ hi, b2_some, nz0_0, r1, if_pos rfl, sp_s0 hok' hE' hi, b2_some, nz0_0, r1, nI_1, nI_1]
    have e : ¬ nI (num 12 (fun f => O' f = nI i) + 1) < nI (num m fun c => av s' c 0 = nI i) := fun w => absurd q2 (by
      have : sn m s' i = num m fun c => av s' c 0 = nI i := rfl
      have h9 := num_le m (fun c => av s' c 0 = nI i)
      have hm := hok'.1
      rw [this]
      intro hle2
      exact absurd (nI_le hle2 (by omega)) (Int32.not_le.mpr w))
    rw [if_neg e]
    exact K' 1 rfl
  · replace hI : x = 1 := hI
    show WP (g_L_opens_L4 (bN 2) N' C' O' g (nf + 1) x (nI 3)) _
    rw [g_L_opens_L4, pastE (M := 3) 3 rfl (Nat.le_refl _) (by decide)]
    exact wp_ret hI
theorem wp_opens (hok : okS K n s) (hE : eqB n bN bO bC s) (hy : bN 1 * 2 + bN 2 = bN 3) {old sav : Int32} {hN hO hC : Nat → Nat → Int32} (hH : JH K old sav hN hO hC) (c1 c2 c3 c4 c5 c6 c7 : Nat → Int32) :
    WP (g_L_opens old sav bN bC c1 c2 c3 c4 c5 c6 c7 bO hN hO hC) (fun z => z.1 = 1 ∧ JB (K + 1) z.2.2.2.1 z.2.2.2.2.2.2.2.2.2.2.2.2.1 z.2.2.2.2.1 ∧ JH (K + 1) z.2.1 z.2.2.1 z.2.2.2.2.2.2.2.2.2.2.2.2.2.1 z.2.2.2.2.2.2.2.2.2.2.2.2.2.2.1 z.2.2.2.2.2.2.2.2.2.2.2.2.2.2.2) := by
  have hn := hok.1
  have hb : bN 2 = 0 ∨ bN 2 = 1 := by
    have h := hok.2.2.1
    rw [← hE.2.1 1 (by decide)] at h
    exact h
  rw [g_L_opens, sp_c0, b2_some, nz0_0, sp_c10 sav hok hE, b2_some, nz0_0, sp_c4, b2_some, nz0_0, sp_c5, b2_some, nz0_0, sp_c2, b2_some, nz0_0, sp_c1, b2_some, nz0_0, sp_c6, b2_some, nz0_0, sp_c7, b2_some, nz0_0, sp_c8, b2_some, nz0_0, sp_c9, b2_some, nz0_0, hok.n0 hE]
  refine wp_b8 (os_L1 hok hE _ _ _ _ _ _ _ _) (fun f1 f2 f3 f4 f5 f6 f7 f47 hc => ?_)
  replace hc : ∀ q, q < 3 → f47 q = nI (cthN n (av s) bO (nI q)) := hc
  refine wp_b12 (os_L2 hok hE _ _ _ _ _ _ _ _ _) (fun v94 v95 v96 g1 g2 g3 g4 g5 g6 g7 f104 f105 hI => ?_)
  obtain ⟨h1, h2, h3, h4⟩ := hI
  replace h1 : v94 = nI (num n (Fx n (av s))) := h1
  replace h2 : v95 = nI (num n (drv n (av s))) := h2
  replace h3 : v96 = nI (num n fun a => pfS n (av s) a = -1) := h3
  replace h4 : ∀ a, a < n → f104 a = pfS n (av s) a ∧ f105 a = av s a 0 := h4
  subst h1; subst h2; subst h3
  obtain ⟨old', sav', hN', hO', hC', N', O', C', d1, d2, d3, d4, d5, d6, d7, e1, e2, m, s', p1, p2, p3, ⟨p4, p5, p6, p7, p8, p9⟩, p10, ⟨u, w, p11, p12, p13⟩, p14, p15⟩ := op_open hok hE hy hH g2 g1 g6 g4 g3 g7 g5
  rw [e1, b16_some, if_pos rfl, sp_c4, b2_some, nz0_0]
  have k1 : num n (fun c => av s c 2 = 1) = num n (goS n (av s)) + num n (Fx n (av s)) := num_sum n (fun a _ => ⟨⟨fun q => by
    by_cases f : Fx n (av s) a
    · exact Or.inr f
    · exact Or.inl ⟨q, f⟩, fun q => q.elim (fun q => q.1) (fun q => (Fx_in q).2)⟩, fun q => q.1.2 q.2⟩)
  have k2 := num_non (P := fun a => pfS n (av s) a = -1) n
  have a4 : N' 4 = (bN 4 + nI (num n fun c => av s c 2 = 1)) - nI (num n (Fx n (av s))) := by
    rw [p4, k1, ← nI_add]; exact i_bal4 _ _ _
  have a0 : nI m = (((nI n - nI (num n fun a => pfS n (av s) a = -1)) + N' 8) - N' 9) - (bN 8 - bN 9) := by
    have hd : nI n - nI (num n fun a => pfS n (av s) a = -1) = nI (num n fun a => ¬ pfS n (av s) a = -1) := i_dg (by rw [nI_add, Nat.add_comm, k2])
    rw [hd, p12, p13]
    refine i_bal ?_
    rw [nI_add, nI_add, p11]
  have z1 : num m (fun c => av s' c 2 = 1) = 0 := num_none m (fun a ha q => by rw [p10 a ha] at q; exact absurd q (by decide))
  have z2 : num m (fun c => av s' c 2 = 2) = 0 := num_none m (fun a ha q => by rw [p10 a ha] at q; exact absurd q (by decide))
  rw [if_pos a4, sp_c5, b2_some, nz0_0, if_pos p5, sp_c6, b2_some, nz0_0, if_pos p6, sp_c7, b2_some, nz0_0, if_pos p7, sp_c2, b2_some, nz0_0, if_pos p8, g_L_opens_J2, if_neg t10, sp_c10 sav' p1 p2, b2_some, nz0_0, z1, if_pos (show nI 0 = 0 from rfl), sp_c11 sav' p1 p2, b2_some, nz0_0, z2, if_pos (show nI 0 = 0 from rfl), sp_c0, b2_some, nz0_0, p1.n0 p2, sp_c8, b2_some, nz0_0, sp_c9, b2_some, nz0_0, if_pos a0, sp_c1, b2_some, nz0_0, if_pos p9, g_L_opens_J3]
  refine wp_bind (os_L3 hok p1 p2 hb h4 p14) (fun v158 q1 => ?_)
  subst q1
  refine wp_bind (os_L4 p1 p2 hc p15) (fun v167 q2 => ?_)
  subst q2
  exact wp_ret ⟨rfl, ⟨m, s', p1, p2, p3⟩, JH_up e2⟩
end OS
