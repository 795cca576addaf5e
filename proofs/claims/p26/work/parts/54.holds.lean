/-! p26: what holds at every time -/
theorem wp_bi {β : Type} {P : Prop} {i : Decidable P} {f : Int32 → Option β} {Q : β → Prop} (h : WP (f (bi P)) Q) : WP (@ite _ P i (f 1) (f 0)) Q := by
  by_cases c : P
  · rw [if_pos c]; rw [bi_t c] at h; exact h
  · rw [if_neg c]; rw [bi_f c] at h; exact h
section HO
variable {K n : Nat} {bN bO bC s : Nat → Int32} {v : Nat → Nat → Int32} {a : Nat}
theorem bt_sh0 : ∀ i, i < 12 → (0 : Int32) <<< (nI i &&& 31) = 0 := by decide +kernel
theorem nm_hi_all : ∀ F, F < 12 → ∀ f, f < 32 → 12 ≤ f → bt ((1 <<< (nI F &&& 31)) ||| nm (nI F)) f = false := by decide +kernel
theorem sna_hi (hA : ∀ a, a < n → ∃ F, F < 12 ∧ v a 1 = nI F) {f : Nat} (hf : f < 32) (hf2 : 12 ≤ f) (q : Int32) : ∀ i, i ≤ n → bt (sna v q i) f = false := by
  intro i
  induction i with
  | zero => intro _; exact b_0 f
  | succ i ih =>
    intro hi
    obtain ⟨F, hF, e⟩ := hA i (by omega)
    rw [sna]
    by_cases e0 : v i 0 = q
    · rw [if_pos e0, b_or, ih (by omega), e, nm_hi_all F hF f hf hf2]; rfl
    · rw [if_neg e0]; exact ih (by omega)
theorem ssa_at (hA : ∀ a, a < n → ∃ q, q < 3 ∧ v a 0 = nI q) (x : Int32) {q : Nat} (hq : q < 3) : (ssa v x n >>> (nI q &&& 31)) &&& 1 = bi (seeE v x n (nI q)) := by
  rw [ssa_sum hA x n (Nat.le_refl _)]
  rcases (show q = 0 ∨ q = 1 ∨ q = 2 by omega) with rfl | rfl | rfl
  · show _ = bi (seeE v x n 0)
    rcases bi_01 (seeE v x n 0) with h0 | h0 <;> rcases bi_01 (seeE v x n 1) with h1 | h1 <;> rcases bi_01 (seeE v x n 2) with h2 | h2 <;> rw [h0, h1, h2] <;> decide
  · show _ = bi (seeE v x n 1)
    rcases bi_01 (seeE v x n 0) with h0 | h0 <;> rcases bi_01 (seeE v x n 1) with h1 | h1 <;> rcases bi_01 (seeE v x n 2) with h2 | h2 <;> rw [h0, h1, h2] <;> decide
  · show _ = bi (seeE v x n 2)
    rcases bi_01 (seeE v x n 0) with h0 | h0 <;> rcases bi_01 (seeE v x n 1) with h1 | h1 <;> rcases bi_01 (seeE v x n 2) with h2 | h2 <;> rw [h0, h1, h2] <;> decide
theorem ho_seen (hok : okS K n s) (hE : eqB n bN bO bC s) {q : Nat} (hq : q < 3) : g_L_holds_L3 bN bC bO (nI q) FU 0 0 = some (sna (av s) (nI q) n) := by
  obtain ⟨y, h1, h2⟩ := lpF (fun nf i (x : Int32) => g_L_holds_L3 bN bC bO (nI q) nf x (nI i)) 12 (fun i x => ∀ f, f < 32 → (bt x f = true ↔ f < i ∧ seeE (av s) (nI f) n (nI q))) (fun x => ∀ f, f < 32 → (bt x f = true ↔ f < 12 ∧ seeE (av s) (nI f) n (nI q))) (by decide) 0
    (fun f _ => by rw [b_0]; exact ⟨fun e => absurd e (by decide), fun e => by omega⟩)
    (fun nf i x hi hI => by
      refine Or.inl ⟨x ||| (bi (seeE (av s) (nI i) n (nI q)) <<< (nI i &&& 31)), fun f hf => ?_, ?_⟩
      · rw [b_or, Bool.or_eq_true, hI f hf]
        by_cases e : seeE (av s) (nI i) n (nI q)
        · rw [bi_t e, bt_sh i hi f hf, decide_eq_true_iff]
          constructor
          · rintro (w | w)
            · exact ⟨by omega, w.2⟩
            · subst w; exact ⟨by omega, e⟩
          · rintro ⟨w1, w2⟩
            by_cases w : f = i
            · exact Or.inr w
            · exact Or.inl ⟨by omega, w2⟩
        · rw [bi_f e, bt_sh0 i hi, b_0]
          constructor
          · rintro (w | w)
            · exact ⟨by omega, w.2⟩
            · exact absurd w (by decide)
          · rintro ⟨w1, w2⟩
            by_cases w : f = i
            · subst w; exact absurd w2 e
            · exact Or.inl ⟨by omega, w2⟩
      · rw [g_L_holds_L3, past (M := 12) 12 rfl hi (by decide), sp_f3 hok hE hi, b2_some, nz0_0, ssa_at (fun a ha => (hok.arm ha).1) _ hq, nI_1])
    (fun nf x hI => ⟨x, by rw [g_L_holds_L3, pastE (M := 12) 12 rfl (Nat.le_refl _) (by decide)], hI⟩)
  refine (show g_L_holds_L3 bN bC bO (nI q) FU 0 0 = some y from h1).trans (congrArg some (b_ext (fun f hf => ?_)))
  by_cases h12 : f < 12
  · have e1 := h2 f hf
    have e2 := sna_bit hok.hF h12 (nI q) n (Nat.le_refl _)
    by_cases e : seeE (av s) (nI f) n (nI q)
    · rw [e1.mpr ⟨h12, e⟩, e2.mpr e]
    · rw [Bool.eq_false_iff.mpr (fun w => e (e1.mp w).2), Bool.eq_false_iff.mpr (fun w => e (e2.mp w))]
  · rw [sna_hi hok.hF hf (by omega) (nI q) n (Nat.le_refl _), Bool.eq_false_iff.mpr (fun w => h12 ((h2 f hf).mp w).1)]
noncomputable def asum (n : Nat) (v : Nat → Nat → Int32) : Nat → Nat
  | 0 => 0
  | i + 1 => asum n v i + num n (fun c => v c 0 = nI i)
theorem asum_le : ∀ i, asum n v i ≤ n * i := by
  intro i
  induction i with
  | zero => exact Nat.zero_le _
  | succ i ih =>
    have := num_le n (fun c => v c 0 = nI i)
    rw [asum, Nat.mul_succ]; omega
theorem asum_3 : ∀ m, (∀ a, a < m → ∃ q, q < 3 ∧ v a 0 = nI q) → asum m v 3 = m := by
  intro m
  induction m with
  | zero => intro _; rfl
  | succ m ih =>
    intro h
    have ih' := ih (fun a ha => h a (by omega))
    have e : ∀ k, asum k v 3 = 0 + num k (fun c => v c 0 = nI 0) + num k (fun c => v c 0 = nI 1) + num k (fun c => v c 0 = nI 2) := fun k => rfl
    rw [e] at ih' ⊢
    obtain ⟨q, hq, e0⟩ := h m (by omega)
    have ne : ∀ j, j < 3 → j ≠ q → ¬ v m 0 = nI j := fun j hj hne w => hne ((nI_eq (by omega) (by omega)).mp (w.symm.trans e0))
    rcases (show q = 0 ∨ q = 1 ∨ q = 2 by omega) with rfl | rfl | rfl
    · rw [num_t (P := fun c => v c 0 = nI 0) e0, num_f (P := fun c => v c 0 = nI 1) (ne 1 (by decide) (by decide)), num_f (P := fun c => v c 0 = nI 2) (ne 2 (by decide) (by decide))]; omega
    · rw [num_f (P := fun c => v c 0 = nI 0) (ne 0 (by decide) (by decide)), num_t (P := fun c => v c 0 = nI 1) e0, num_f (P := fun c => v c 0 = nI 2) (ne 2 (by decide) (by decide))]; omega
    · rw [num_f (P := fun c => v c 0 = nI 0) (ne 0 (by decide) (by decide)), num_f (P := fun c => v c 0 = nI 1) (ne 1 (by decide) (by decide)), num_t (P := fun c => v c 0 = nI 2) e0]; omega
theorem loa_val (hA : ∀ a, a < n → ∃ F, F < 12 ∧ v a 1 = nI F) (q : Int32) : ∀ i, i ≤ n → (num i (fun c => v c 0 = q) = 0 ∧ loa v q i = -1) ∨ (0 < num i (fun c => v c 0 = q) ∧ ∃ F, F < 12 ∧ loa v q i = nI F) := by
  intro i
  induction i with
  | zero => intro _; exact Or.inl ⟨rfl, rfl⟩
  | succ i ih =>
    intro hi
    obtain ⟨F, hF, e⟩ := hA i (by omega)
    by_cases e0 : v i 0 = q
    · refine Or.inr ⟨by rw [num_t (P := fun c => v c 0 = q) e0]; omega, ?_⟩
      rw [loa, if_pos e0]
      rcases ih (by omega) with ⟨_, h⟩ | ⟨_, G, hG, h⟩
      · rw [h, if_pos rfl]; exact ⟨F, hF, e⟩
      · rw [h, if_neg (nI_m1 (by omega))]
        by_cases c : nI G ≤ v i 1
        · rw [if_pos c]; exact ⟨G, hG, rfl⟩
        · rw [if_neg c]; exact ⟨F, hF, e⟩
    · rw [num_f (P := fun c => v c 0 = q) e0, loa, if_neg e0]
      exact ih (by omega)
theorem loa_iff (hn : n ≤ 9) (hA : ∀ a, a < n → ∃ F, F < 12 ∧ v a 1 = nI F) (q : Int32) : loa v q n = -1 ↔ nI (num n fun c => v c 0 = q) = 0 := by
  have hle := num_le n (fun c => v c 0 = q)
  rcases loa_val hA q n (Nat.le_refl _) with ⟨h1, h2⟩ | ⟨h1, F, hF, h2⟩
  · rw [h1, h2]; exact ⟨fun _ => rfl, fun _ => rfl⟩
  · rw [h2]
    exact ⟨fun e => absurd e (nI_m1 (by omega)), fun e => absurd e (nI_ne0 (by omega) (by omega))⟩
theorem ho_seats (hok : okS K n s) (hE : eqB n bN bO bC s) : WP (g_L_holds_L2 bN bC bO FU 1 0 0) (fun z => z.1 = 1 ∧ z.2 = nI n) := by
  have hn := hok.1
  refine wp_loop (fun nf i (x : Int32 × Int32) => g_L_holds_L2 bN bC bO nf x.1 x.2 (nI i)) 3 (fun i x => x.1 = 1 ∧ x.2 = nI (asum n (av s) i)) (fun z => z.1 = 1 ∧ z.2 = nI n) (by decide) (1, 0) ⟨rfl, rfl⟩ (fun nf i x hi hI K' => ?_) (fun nf x hI => ?_)
  · obtain ⟨b, z⟩ := x
    obtain ⟨h1, h2⟩ := hI
    replace h1 : b = 1 := h1
    replace h2 : z = nI (asum n (av s) i) := h2
    subst h1; subst h2
    have K1 : WP (g_L_holds_L2 bN bC bO nf 1 (nI (asum n (av s) (i + 1))) (nI (i + 1))) (fun z => z.1 = 1 ∧ z.2 = nI n) := K' (1, nI (asum n (av s) (i + 1))) ⟨rfl, rfl⟩
    show WP (g_L_holds_L2 bN bC bO (nf + 1) 1 (nI (asum n (av s) i)) (nI i)) _
    rw [g_L_holds_L2, past (M := 3) 3 rfl hi (by decide), if_neg t10, ho_seen hok hE hi, bd_some, sp_s0 hok hE hi, b2_some, nz0_0, sp_s2 hok hE hi, b2_some, nz0_0, if_pos rfl, sp_s3 hok hE hi, b2_some, nz0_0]
    refine wp_bi (f := g_L_holds_J3 _ _ _ _ _ _ _) ?_
    rw [g_L_holds_J3, sp_s0 hok hE hi, b2_some, nz0_0]
    refine wp_bi (f := g_L_holds_J4 _ _ _ _ _) ?_
    rw [g_L_holds_J4, if_pos (bi_c (loa_iff hn hok.hF _)), nI_add, nI_1]
    exact K1
  · obtain ⟨b, z⟩ := x
    obtain ⟨h1, h2⟩ := hI
    show WP (g_L_holds_L2 bN bC bO (nf + 1) b z (nI 3)) _
    rw [g_L_holds_L2, pastE (M := 3) 3 rfl (Nat.le_refl _) (by decide)]
    exact wp_ret ⟨h1, by rw [show z = nI (asum n (av s) 3) from h2, asum_3 n (fun a ha => (hok.arm ha).1)]⟩
theorem out3b : outS n v a 3 = bi (drv n v a) := by
  rw [out3]
  by_cases e : drS n v a = -1
  · rw [if_pos e, bi_f (fun q => q e)]
  · rw [if_neg e, bi_t (show drv n v a from e)]
theorem ho_loop (hok : okS K n s) (hE : eqB n bN bO bC s) (sv : Int32) (f1 f2 f3 f4 f5 f6 f7 f8 f9 f10 f11 f12 f13 f14 : Nat → Int32) :
    WP (g_L_holds_L1 (nI n) bN bC bO sv FU 0 0 0 1 0 f1 f2 f3 f4 f5 f6 f7 f8 f9 f10 f11 f12 f13 f14) (fun z => z.1 = nI (num n fun c => av s c 2 = 1) ∧ z.2.1 = nI (num n fun c => av s c 2 = 2) ∧ z.2.2.1 = nI (num n (drv n (av s))) ∧ z.2.2.2.1 = 1) := by
  have hn := hok.1
  refine wp_loop (fun nf i (x : Int32 × Int32 × Int32 × Int32 × (Nat → Int32) × (Nat → Int32) × (Nat → Int32) × (Nat → Int32) × (Nat → Int32) × (Nat → Int32) × (Nat → Int32) × (Nat → Int32) × (Nat → Int32) × (Nat → Int32) × (Nat → Int32) × (Nat → Int32) × (Nat → Int32) × (Nat → Int32)) => g_L_holds_L1 (nI n) bN bC bO sv nf x.1 x.2.1 x.2.2.1 x.2.2.2.1 (nI i) x.2.2.2.2.1 x.2.2.2.2.2.1 x.2.2.2.2.2.2.1 x.2.2.2.2.2.2.2.1 x.2.2.2.2.2.2.2.2.1 x.2.2.2.2.2.2.2.2.2.1 x.2.2.2.2.2.2.2.2.2.2.1 x.2.2.2.2.2.2.2.2.2.2.2.1 x.2.2.2.2.2.2.2.2.2.2.2.2.1 x.2.2.2.2.2.2.2.2.2.2.2.2.2.1 x.2.2.2.2.2.2.2.2.2.2.2.2.2.2.1 x.2.2.2.2.2.2.2.2.2.2.2.2.2.2.2.1 x.2.2.2.2.2.2.2.2.2.2.2.2.2.2.2.2.1 x.2.2.2.2.2.2.2.2.2.2.2.2.2.2.2.2.2) n
    (fun i x => x.1 = nI (num i fun c => av s c 2 = 1) ∧ x.2.1 = nI (num i fun c => av s c 2 = 2) ∧ x.2.2.1 = nI (num i (drv n (av s))) ∧ x.2.2.2.1 = 1) _ (by omega) (0, 0, 0, 1, f1, f2, f3, f4, f5, f6, f7, f8, f9, f10, f11, f12, f13, f14) ⟨rfl, rfl, rfl, rfl⟩ (fun nf i x hi hI K' => ?_) (fun nf x hI => ?_)
  · obtain ⟨y1, y2, y3, y4, q1, q2, q3, q4, q5, q6, q7, q8, q9, q10, q11, q12, q13, q14⟩ := x
    obtain ⟨h1, h2, h3, h4⟩ := hI
    replace h1 : y1 = nI (num i fun c => av s c 2 = 1) := h1
    replace h2 : y2 = nI (num i fun c => av s c 2 = 2) := h2
    replace h3 : y3 = nI (num i (drv n (av s))) := h3
    replace h4 : y4 = 1 := h4
    subst h1; subst h2; subst h3; subst h4
    have K1 := fun q1 q2 q3 q4 q5 q6 q7 q8 q9 q10 q11 q12 q13 q14 => K' (nI (num (i + 1) fun c => av s c 2 = 1), nI (num (i + 1) fun c => av s c 2 = 2), nI (num (i + 1) (drv n (av s))), 1, q1, q2, q3, q4, q5, q6, q7, q8, q9, q10, q11, q12, q13, q14) ⟨rfl, rfl, rfl, rfl⟩
    show WP (g_L_holds_L1 (nI n) bN bC bO sv (nf + 1) _ _ _ 1 (nI i) q1 q2 q3 q4 q5 q6 q7 q8 q9 q10 q11 q12 q13 q14) _
    rw [g_L_holds_L1, go_on hn hi, if_neg t10]
    refine wp_b15 (wp_isArmy hok hE hi sv _ _ _ _ _ _ _ _ _ _ _ _ _ _) (fun v36 g1 g2 g3 g4 g5 g6 g7 g8 g9 g10 g11 g12 g13 g14 e => ?_)
    replace e : v36 = 1 := e
    subst e
    rw [sp_a2 hok hE hi, b2_some, nz0_0]
    refine wp_bi (f := g_L_holds_J1 _ _ _ _ _ _ _ _ _ _ _ _ _ _ _ _ _ _ _ _ _ _) ?_
    rw [g_L_holds_J1, sp_a2 hok hE hi, b2_some, nz0_0]
    refine wp_bi (f := g_L_holds_J2 _ _ _ _ _ _ _ _ _ _ _ _ _ _ _ _ _ _ _ _ _ _ _) ?_
    rw [g_L_holds_J2]
    refine wp_ifO hok hE hi (w := 3) (by decide) (fun d1 d2 d3 d4 d5 d6 d7 => ?_)
    rw [nz0_0, out3b, ← num_bi i (fun c => av s c 2 = 1), ← num_bi i (fun c => av s c 2 = 2), ← num_bi i (drv n (av s)), nI_1]
    exact K1 _ _ _ _ _ _ _ _ _ _ _ _ _ _
  · obtain ⟨y1, y2, y3, y4, q1, q2, q3, q4, q5, q6, q7, q8, q9, q10, q11, q12, q13, q14⟩ := x
    show WP (g_L_holds_L1 (nI n) bN bC bO sv (nf + 1) y1 y2 y3 y4 (nI n) q1 q2 q3 q4 q5 q6 q7 q8 q9 q10 q11 q12 q13 q14) _
    rw [g_L_holds_L1, go_out hn]
    exact wp_ret hI
theorem mx_iff (hn : n ≤ 9) (W : Nat → Prop) (ds : Nat → Nat) : mx n W ds = -1 ↔ nI (num n W) = 0 := by
  have hle := num_le n W
  rcases mx_cases n W ds with ⟨a, h1, h2, h3⟩ | ⟨h1, h2⟩
  · rw [h3]
    have : 0 < num n W := Nat.pos_of_ne_zero (fun e => num_0 e a h1 h2)
    exact ⟨fun e => absurd e (nI_m1 (by omega)), fun e => absurd e (nI_ne0 (by omega) (by omega))⟩
  · rw [h2, num_none n h1]; exact ⟨fun _ => rfl, fun _ => rfl⟩
theorem ho_J6 (hy : bN 1 * 2 + bN 2 = bN 3) {x : UInt64} (hx : ShOK x) (sv : Int32) (f1 f2 f3 f4 f5 f6 f7 e1 e2 e3 e4 e5 e6 e7 : Nat → Int32) : WP (g_L_holds_J6 x sv bN bC f1 f2 f3 f4 f5 f6 f7 e1 e2 e3 e4 e5 e6 e7 x) (fun z => z.1 = 1) := by
  rw [g_L_holds_J6, if_pos hx.self, sp_c1, b2_some, nz0_0, sp_c2, b2_some, nz0_0, sp_c3, b2_some, nz0_0, if_pos hy]
  exact wp_ret rfl
theorem ho_J5 (hok : okS K n s) (hE : eqB n bN bO bC s) (hK : K ≤ 512) (hy : bN 1 * 2 + bN 2 = bN 3) (sv : Int32) (f1 f2 f3 f4 f5 f6 f7 e1 e2 e3 e4 e5 e6 e7 : Nat → Int32) : WP (g_L_holds_J5 sv bN bC f1 f2 f3 f4 f5 f6 f7 1 e1 e2 e3 e4 e5 e6 e7) (fun z => z.1 = 1) := by
  obtain ⟨_, _, _, ⟨a, b, ha, hb, e3, e4⟩, _, _, _⟩ := hok
  have b4 : bN 4 = nI a := (hE.2.1 3 (by decide)).trans e3
  have b5 : bN 5 = nI b := (hE.2.1 4 (by decide)).trans e4
  have n4 : g_X0_number bN 4 = some (nI a) := (x0_number (k := 4) (by decide)).trans (by rw [b4])
  have n5 : g_X0_number bN 5 = some (nI b) := (x0_number (k := 5) (by decide)).trans (by rw [b5])
  rw [g_L_holds_J5, sp_c4, b2_some, nz0_0, sp_c5, b2_some, nz0_0, if_neg t10, b4, b5, nI_add]
  by_cases h : a + b = 0
  · have hs : g_X4_success bN = some FP.dconst1 := by
      rw [g_X4_success, g_X4_successShare, n4, bd_some, n5, bd_some, nI_add, h, if_pos (show nI 0 ≤ 0 by decide), g_X4_successShare_J1, bd_some]
    rw [hs, bd_some, h, if_pos (show nI 0 = 0 from rfl)]
    exact ho_J6 hy (Or.inl ⟨1023, 0, Gd_1, Nat.le_refl _⟩) sv _ _ _ _ _ _ _ _ _ _ _ _ _ _
  · have hs : ShOK (FP.ddiv (FP.i2d (nI a)) (FP.i2d (nI (a + b)))) := fq_share (by omega) (by omega) (by omega)
    have hq : g_X4_success bN = some (FP.ddiv (FP.i2d (nI a)) (FP.i2d (nI (a + b)))) := by
      rw [g_X4_success, g_X4_successShare, n4, bd_some, n5, bd_some, nI_add, if_neg (nI_nle (by omega) (by omega)), hs.nd, g_X4_successShare_J1, bd_some]
    rw [hq, bd_some, if_neg (nI_ne0 (by omega) (by omega)), b2_some, nz0_0, hs.nd]
    exact ho_J6 hy hs sv _ _ _ _ _ _ _ _ _ _ _ _ _ _
theorem wp_holds (hok : okS K n s) (hE : eqB n bN bO bC s) (hK : K ≤ 512) (hy : bN 1 * 2 + bN 2 = bN 3) (sv : Int32) (f1 f2 f3 f4 f5 f6 f7 e1 e2 e3 e4 e5 e6 e7 : Nat → Int32) :
    WP (g_L_holds sv bN bC f1 f2 f3 f4 f5 f6 f7 bO e1 e2 e3 e4 e5 e6 e7) (fun z => z.1 = 1) := by
  have hn := hok.1
  rw [g_L_holds, sp_c0, b2_some, nz0_0, hok.n0 hE]
  refine wp_b18 (ho_loop hok hE sv _ _ _ _ _ _ _ _ _ _ _ _ _ _) (fun v52 v53 v54 v55 g1 g2 g3 g4 g5 g6 g7 g8 g9 g10 g11 g12 g13 g14 hI => ?_)
  obtain ⟨h1, h2, h3, h4⟩ := hI
  replace h1 : v52 = nI (num n fun c => av s c 2 = 1) := h1
  replace h2 : v53 = nI (num n fun c => av s c 2 = 2) := h2
  replace h3 : v54 = nI (num n (drv n (av s))) := h3
  replace h4 : v55 = 1 := h4
  subst h1; subst h2; subst h3; subst h4
  refine wp_b2 (ho_seats hok hE) (fun v88 v89 hI => ?_)
  obtain ⟨h1, h2⟩ := hI
  replace h1 : v88 = 1 := h1
  replace h2 : v89 = nI n := h2
  subst h1; subst h2
  refine wp_danger hok hE (fun d1 d2 d3 d4 d5 d6 d7 => ?_)
  rw [if_neg t10, if_pos rfl, sp_c10 sv hok hE, b2_some, nz0_0, if_pos rfl, sp_c11 sv hok hE, b2_some, nz0_0, if_pos rfl]
  refine wp_bi (f := g_L_holds_J7 _ _ _ _ _ _ _ _ _ _ _ _ _ _ _ _ _ _ _) ?_
  rw [g_L_holds_J7]
  refine wp_bi (f := g_L_holds_J8 _ _ _ _ _ _ _ _ _ _ _ _ _ _ _ _ _ _ _) ?_
  rw [g_L_holds_J8, if_pos (bi_c (mx_iff hn _ _))]
  rcases mx_cases n (drv n (av s)) (dsN n (av s)) with ⟨a, h1, h2, h3⟩ | ⟨_, h2⟩
  · rw [h3, if_neg (nI_m1 (by omega))]
    refine wp_ifO hok hE h1 (w := 3) (by decide) (fun d1 d2 d3 d4 d5 d6 d7 => ?_)
    rw [nz0_0, out3b, bi_t h2, if_pos rfl]
    exact ho_J5 hok hE hK hy sv _ _ _ _ _ _ _ _ _ _ _ _ _ _
  · rw [if_pos h2]
    exact ho_J5 hok hE hK hy sv _ _ _ _ _ _ _ _ _ _ _ _ _ _
end HO
